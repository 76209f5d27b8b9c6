section
section
variable {w w2 : MS} {T T1 : TY} {C C1 : CY} {Z Z1 a b c z a1 b1 c2 c3 c4 : Nat → Nat} {g q q2 q3 m m2 m3 mT lo mm X Y sh lo2 mm2 X2 Y2 sh2 rk rk1 SN n x y many hg hb RR k cc mN gk j f e rr : Nat} {R R1 R2 E S : Nat → Prop} {ret : Bool} {root : Int} {μ : Nat → Nat → Nat} {r : Nat → Nat}
theorem SEQ_recv0 (o0 : ONE a a1 j) (o1 : ONE a1 (μ 0) n) (h : CHD w SN false ((n : Nat) : Int) k μ r 1 m mm X Y sh) (hk : 0 < k) (o2 : ONE (μ k) z (μ k 0)) (kj : KND w j 26) (h25j : A w 25 j = ((n : Nat) : Int)) (kn : A w 23 n = 27 ∧ 0 ≤ A w 24 n ∧ A w 24 n < 4002 ∧ A w 29 n = -1) (h25 : A w 25 n = ((μ 0 1 : Nat) : Int)) (h26 : A w 26 n = ((μ k 0 : Nat) : Int)) (h27 : A w 27 n = ((m : Nat) : Int)) (h31 : A w 31 n = -1) (h28 : A w 28 n = ((r (k - 1) : Nat) : Int)) (ke : A w 23 (μ k 0) = 30 ∧ 0 ≤ A w 24 (μ k 0) ∧ A w 24 (μ k 0) < 4002 ∧ A w 29 (μ k 0) = -1) (h28e : A w 28 (μ k 0) = ((r (k - 1) : Nat) : Int)) (rl : RLS w k r) (hl : lo ≤ m) : SEQ w SN 0 a z 0 1 m m lo mm X Y sh (fun i => i = μ k 0) := by
  obtain ⟨d0, d1, d2, d3, d4⟩ := o0
  obtain ⟨p0, p1, p2, p3, p4⟩ := o1
  obtain ⟨-, u1, u2, u3, u4⟩ := o2
  obtain ⟨j1, j2, j3, j4, j5⟩ := kj
  have pm := PTD_m (h.1 0 hk)
  have cl : ∀ t, μ 0 t ≤ μ k t := fun t => by
    have := CHD_le h k 0 (by omega) t
    rw [Nat.zero_add] at this
    exact this
  have c0 := cl 0
  refine ⟨⟨fun t => Nat.le_trans (d4 t) (Nat.le_trans (p4 t) (Nat.le_trans (cl t) (u4 t))), fun _ => rfl, hl, hl, pm.1, pm.1, by omega, by omega, fun i hi => by omega⟩, fun Z hh rk z1 z2 z3 z4 z5 z6 z7 z8 z9 => ?_⟩
  have g0 : Z 4 = 0 := z7.1 rfl
  obtain ⟨T1, C1, ht⟩ := chain_ok (hg := hh) (hb := hh) (Z := Z) (rk := rk + 1) (RR := rk + 1 + (μ k 0 - μ 0 0)) (fun t => tyc Z (hh + 1) m (rk + 1) t 0) h g0 (fun y => by cases y) (by omega) (by omega) z4 z5 z6 (by omega) (by omega) (by omega) (Nat.le_refl _) (by omega)
  obtain ⟨y1, y2, y3, y5, y4⟩ := id ht
  obtain ⟨T, hT⟩ : ∃ T, T = cat (j + 1) (tyc Z hh m (rk + 3 + (μ k 0 - μ 0 0))) (cat (n + 1) (tyc Z hh m (rk + 2 + (μ k 0 - μ 0 0))) (cat (μ k 0 + 1) T1 (tyc Z (hh + 1) m rk))) := ⟨_, rfl⟩
  have ej : ETY T Z hh m j := ETY_eq (T1 := tyc Z hh m (rk + 3 + (μ k 0 - μ 0 0))) tyc_e (fun t _ => by rw [hT]; exact cat_l (by omega))
  have rj : tR T j = rk + 3 + (μ k 0 - μ 0 0) := by rw [hT]; exact (cat_l (k := 8) (by omega)).trans (tyc_r (i := 0))
  have en : ETY T Z hh m n := ETY_eq (T1 := tyc Z hh m (rk + 2 + (μ k 0 - μ 0 0))) tyc_e (fun t _ => by rw [hT, cat_r (by omega), cat_l (by omega)])
  have rn : tR T n = rk + 2 + (μ k 0 - μ 0 0) := by rw [hT]; exact ((cat_r (k := 8) (by omega)).trans (cat_l (k := 8) (by omega))).trans (tyc_r (i := 0))
  have e1 : ∀ t i, t ≤ 8 → μ 0 0 ≤ i → i ≤ μ k 0 → T t i = T1 t i := fun t i _ h1 h2 => by rw [hT, cat_r (by omega), cat_r (by omega), cat_l (by omega)]
  have ez : ETY T Z (hh + 1) m (μ k 0 + 1) := ETY_eq (T1 := tyc Z (hh + 1) m rk) tyc_e (fun t _ => by rw [hT, cat_r (by omega), cat_r (by omega), cat_r (by omega)])
  have rz : tR T (μ k 0 + 1) = rk := by rw [hT]; exact ((cat_r (k := 8) (by omega)).trans ((cat_r (k := 8) (by omega)).trans (cat_r (k := 8) (by omega)))).trans (tyc_r (i := 0))
  clear hT
  have ee : ETY T Z (hh + 1) m (μ k 0) := ETY_eq (T1 := fun t _ => tyc Z (hh + 1) m (rk + 1) t 0) (tyc_e (i := 0)) (fun t ht => (e1 t _ ht (by omega) (Nat.le_refl _)).trans (y5 t ht))
  have re : tR T (μ k 0) = rk + 1 := ((e1 8 _ (by decide) (by omega) (Nat.le_refl _)).trans (y5 8 (by decide))).trans (tyc_r (i := 0))
  have ap : ∀ t, a t ≤ μ 0 t := fun t => Nat.le_trans (d4 t) (p4 t)
  obtain ⟨n0, n1, n2, n3, n4, n5, n6, n7⟩ := ETY_t en
  obtain ⟨w0, w1, w2, w3, w4, w5, w6, w7⟩ := ETY_t ee
  have kr0 : ∀ i, i < k → kq w T (r i) = Z 3 := fun i hi => by
    have := CHD_r h hi
    exact (kq_eq (e1 3 _ (by decide) (by omega) (by omega))).trans (y3 i (by omega) hi).2.2
  obtain ⟨i1, i2, i3, kr⟩ := CHT_in (T := T) (C := C1) (a := a) (b := z) (rk := rk) (S := fun i => i = μ k 0) h ht g0 ap u4 e1 (fun _ _ _ _ => rfl) (by omega) ee (by omega) h26 (by omega) (fun i hi => by
    obtain ⟨l1, l2⟩ := rl i hi
    rcases Nat.eq_zero_or_pos i with q | q
    · exact Or.inl (l1 q)
    · have := CHD_r h (show i - 1 < k by omega)
      exact Or.inr ⟨r (i - 1), l2 q, by omega, by omega, kr0 (i - 1) (by omega)⟩)
  have kn' : kq w T n = Z 3 := by unfold kq; rw [if_neg (by omega)]; exact n3
  have ke' : kq w T (μ k 0) = Z 3 := by unfold kq; rw [if_neg (by omega)]; exact w3
  have hd := CHD_r h (show k - 1 < k by omega)
  refine ⟨T, C1, by rw [d0]; exact ej, by rw [u1]; exact ez, by rw [u1]; exact rz, fun _ => by rw [d0]; omega, by rw [d0]; omega, fun i hi => by rw [hi]; exact ke', fun i h1 h2 => ?_, fun i h1 h2 => i2 i (by omega) (by omega), fun i h1 h2 => i3 i (by omega) (by omega)⟩
  rcases Nat.lt_or_ge i (μ 0 0) with hi | hi
  · rcases Nat.lt_or_ge i n with hn | hn
    · obtain rfl : i = j := by omega
      exact NODE_26 (t := n) j1 ⟨j2, j3⟩ ej en g0 (by omega) (by omega) h25j (by omega) ⟨Or.inl j4, Or.inr (Or.inl j5)⟩
    · obtain rfl : i = n := by omega
      have hc := y1 0 (by omega) hk
      obtain ⟨_, _, _, _, _, _, -, ⟨f41, -⟩, -⟩ := h.1 0 hk
      have clk : μ 0 1 < z 1 := by
        have := (PTD_le (h.1 0 hk)).2.2.1
        have h2 := CHD_le h (k - 1) 1 (by omega) 1
        rw [show 1 + (k - 1) = k from by omega] at h2
        rw [show (0 : Nat) + 1 = 1 from rfl] at this
        omega
      refine NODE_0 (by omega) ⟨kn.2.1, kn.2.2.1⟩ en g0 (by omega) (by omega) (fun _ => ⟨fun y => by omega, fun y => by omega, fun y => by omega, fun y => by omega, fun y => by omega, fun y => by omega, fun y => by omega, fun y => by omega, fun y => by omega, fun y => by omega, fun y => by omega, fun y => ?_, fun y => by omega, fun y => by omega, fun y => by omega, fun y => by omega⟩) ⟨fun y => by omega, fun y => by omega, fun y yy => absurd h31 yy, fun _ _ => by omega, fun y => by omega, fun y => by omega⟩ ⟨Or.inr ⟨r (k - 1), h28, by omega, by omega, (kr _ (by omega)).trans kn'.symm⟩, Or.inr (Or.inl kn.2.2.2)⟩
      refine ⟨n4.trans g0, by omega, Or.inr ⟨rk + 1 + (μ k 0 - μ 0 0), by omega, μ 0 1, h25, clk, by omega, ?_⟩, Or.inl h31⟩
      rw [n0, n1, n2, n3, n7, hc.1, hc.2.1, hc.2.2.1, hc.2.2.2.1, hc.2.2.2.2.1, hc.2.2.2.2.2.1, hc.2.2.2.2.2.2]
      exact ⟨rfl, rfl, rfl, rfl, rfl, rfl, rfl⟩
  · rcases Nat.lt_or_ge i (μ k 0) with hj | hj
    · exact i1 i hi hj
    · obtain rfl : i = μ k 0 := by omega
      exact NODE_30 ke.1 ⟨ke.2.1, ke.2.2.1⟩ ee ez g0 (by omega) (by omega) ⟨Or.inr ⟨r (k - 1), h28e, by omega, by omega, (kr _ (by omega)).trans ke'.symm⟩, Or.inl rfl⟩
def HDK (w : MS) (k n c : Nat) : Prop := (k = 0 ∧ A w 25 n = -1) ∨ (0 < k ∧ A w 25 n = ((c : Nat) : Int))
def HDQ (w : MS) (k : Nat) (r : Nat → Nat) (rr : Nat) : Prop := (k = 0 ∧ A w 29 rr = -1) ∨ (0 < k ∧ A w 29 rr = ((r (k - 1) : Nat) : Int))
theorem SEQ_recv1 (o0 : ONE a a1 j) (o1 : ONE a1 (μ 0) n) (h : CHD w SN false ((n : Nat) : Int) k μ r 1 m mm X Y sh) (st : SEQ w SN 0 (μ k) c2 0 1 m mT m mm X Y sh (fun _ => False)) (o2 : ONE c2 c3 f) (sb : SEQ w SN 0 c3 c4 0 1 m m m mm X Y sh (fun i => i = rr)) (o3 : ONE c4 z e) (kj : KND w j 26) (h25j : A w 25 j = ((μ k 0 : Nat) : Int)) (kn : A w 23 n = 27 ∧ 0 ≤ A w 24 n ∧ A w 24 n < 4002 ∧ A w 29 n = -1) (h25 : HDK w k n (μ 0 1)) (h26 : A w 26 n = ((e : Nat) : Int)) (h27 : A w 27 n = ((m : Nat) : Int)) (h31 : A w 31 n = ((f : Nat) : Int)) (h28 : A w 28 n = ((rr : Nat) : Int)) (kf : KND w f 28) (h25f : A w 25 f = ((n : Nat) : Int)) (h27f : A w 27 f = ((m : Nat) : Int)) (h26f : A w 26 f = ((f + 1 : Nat) : Int)) (ke : A w 23 e = 30 ∧ 0 ≤ A w 24 e ∧ A w 24 e < 4002 ∧ A w 29 e = -1) (h28e : A w 28 e = ((rr : Nat) : Int)) (rl : RLS w k r) (hr0 : HDQ w k r rr) (hl : lo ≤ m) : SEQ w SN 0 a z 0 1 m m lo mm X Y sh (fun i => i = e) := by
  obtain ⟨d0, d1, d2, d3, d4⟩ := o0
  obtain ⟨p0, p1, p2, p3, p4⟩ := o1
  obtain ⟨v0, v1, v2, v3, v4⟩ := o2
  obtain ⟨x0, u1, u2, u3, u4⟩ := o3
  obtain ⟨j1, j2, j3, j4, j5⟩ := kj
  obtain ⟨f1, f2, f3, f4, f5⟩ := kf
  obtain ⟨⟨t1, t2, t3, t4, t5, t6, t7, t8, t9⟩, t10⟩ := st
  obtain ⟨⟨b1, b2, b3, b4, b5, b6, b7, b8, b9⟩, b10⟩ := sb
  have cl : ∀ t, μ 0 t ≤ μ k t := fun t => by
    have := CHD_le h k 0 (by omega) t
    rw [Nat.zero_add] at this
    exact this
  have c0 := cl 0
  have c1 := cl 1
  have c3' := cl 3
  have tt0 := t1 0
  have tt1 := t1 1
  have tt3 := t1 3
  have bb0 := b1 0
  have bb1 := b1 1
  have bb3 := b1 3
  have rr0 := b9 rr rfl
  have ap : ∀ t, a t ≤ μ 0 t := fun t => Nat.le_trans (d4 t) (p4 t)
  have ak : ∀ t, a t ≤ μ k t := fun t => Nat.le_trans (ap t) (cl t)
  have a3 : ∀ t, a t ≤ c3 t := fun t => Nat.le_trans (ak t) (Nat.le_trans (t1 t) (v4 t))
  have zc2 : ∀ t, c2 t ≤ z t := fun t => Nat.le_trans (v4 t) (Nat.le_trans (b1 t) (u4 t))
  have zk : ∀ t, μ k t ≤ z t := fun t => Nat.le_trans (t1 t) (zc2 t)
  refine ⟨⟨fun t => Nat.le_trans (ak t) (zk t), fun _ => rfl, hl, hl, t5, t5, by omega, by omega, fun i hi => by omega⟩, fun Z hh rk z1 z2 z3 z4 z5 z6 z7 z8 z9 => ?_⟩
  have g0 : Z 4 = 0 := z7.1 rfl
  obtain ⟨T3, C3, s1, s2, s3, s4, s5, s6, s7⟩ := b10 Z hh (rk + 1) z1 (by omega) z3 z4 z5 z6 z7 (by omega) (by omega)
  obtain ⟨RR, hRR⟩ : ∃ RR, RR = rk + 1 + (c4 0 - c3 0) + (μ k 0 - μ 0 0) := ⟨_, rfl⟩
  obtain ⟨T2, C2, q1, q2, q3, q4, q5, q6, q7⟩ := t10 Z hh (RR + 2) z1 (by omega) z3 z4 z5 z6 z7 (by omega) (by omega)
  obtain ⟨T1, C1, ht⟩ := chain_ok (hg := hh) (hb := hh) (Z := Z) (rk := rk + 1) (RR := RR) (fun t => T2 t (μ k 0)) h g0 (fun y => by cases y) (by omega) (by omega) z4 z5 z6 (by omega) (by omega) (by omega) (by omega) (by omega)
  obtain ⟨y1, y2, y3, y5, y4⟩ := id ht
  obtain ⟨C, hC⟩ : ∃ C, C = cat (μ k 1) C1 (cat (c2 1) C2 C3) := ⟨_, rfl⟩
  have eC1 : ∀ t d, μ 0 1 ≤ d → d < μ k 1 → C t d = C1 t d := fun t d _ h2 => by rw [hC]; exact cat_l h2
  have eC2 : ∀ t d, μ k 1 ≤ d → d < c2 1 → C t d = C2 t d := fun t d h1 h2 => by rw [hC, cat_r h1, cat_l h2]
  have eC3 : ∀ t d, c3 1 ≤ d → d < c4 1 → C t d = C3 t d := fun t d h1 h2 => by rw [hC, cat_r (by omega), cat_r (by omega)]
  clear hC
  obtain ⟨T, hT⟩ : ∃ T, T = cat (j + 1) (tyc Z hh m (tR T2 (μ k 0) + 1)) (cat (n + 1) (tyc Z hh m (RR + 1)) (cat (μ k 0) T1 (cat (f + 1) T2 (cat (e + 1) T3 (tyc Z (hh + 1) m rk))))) := ⟨_, rfl⟩
  have ej : ETY T Z hh m j := ETY_eq (T1 := tyc Z hh m (tR T2 (μ k 0) + 1)) tyc_e (fun t _ => by rw [hT]; exact cat_l (by omega))
  have rj : tR T j = tR T2 (μ k 0) + 1 := by rw [hT]; exact (cat_l (k := 8) (by omega)).trans (tyc_r (i := 0))
  have en : ETY T Z hh m n := ETY_eq (T1 := tyc Z hh m (RR + 1)) tyc_e (fun t _ => by rw [hT, cat_r (by omega), cat_l (by omega)])
  have rn : tR T n = RR + 1 := by rw [hT]; exact ((cat_r (k := 8) (by omega)).trans (cat_l (k := 8) (by omega))).trans (tyc_r (i := 0))
  have e2 : ∀ t i, t ≤ 8 → μ k 0 ≤ i → i ≤ c2 0 → T t i = T2 t i := fun t i _ h1 h2 => by rw [hT, cat_r (by omega), cat_r (by omega), cat_r (by omega), cat_l (by omega)]
  have e1 : ∀ t i, t ≤ 8 → μ 0 0 ≤ i → i ≤ μ k 0 → T t i = T1 t i := fun t i ht h1 h2 => by
    rcases Nat.lt_or_eq_of_le h2 with x | x
    · rw [hT, cat_r (by omega), cat_r (by omega), cat_l (by omega)]
    · rw [x, y5 t ht]; exact e2 t _ ht (Nat.le_refl _) tt0
  have e3 : ∀ t i, t ≤ 8 → c3 0 ≤ i → i ≤ c4 0 → T t i = T3 t i := fun t i _ h1 h2 => by rw [hT, cat_r (by omega), cat_r (by omega), cat_r (by omega), cat_r (by omega), cat_l (by omega)]
  have ez : ETY T Z (hh + 1) m (e + 1) := ETY_eq (T1 := tyc Z (hh + 1) m rk) tyc_e (fun t _ => by rw [hT, cat_r (by omega), cat_r (by omega), cat_r (by omega), cat_r (by omega), cat_r (by omega)])
  have rz : tR T (e + 1) = rk := by rw [hT]; exact ((cat_r (k := 8) (by omega)).trans ((cat_r (k := 8) (by omega)).trans ((cat_r (k := 8) (by omega)).trans ((cat_r (k := 8) (by omega)).trans (cat_r (k := 8) (by omega)))))).trans (tyc_r (i := 0))
  clear hT
  have ek := ETY_eq (T := T) q1 (fun t ht => e2 t _ ht (Nat.le_refl _) tt0)
  have rk' : tR T (μ k 0) = tR T2 (μ k 0) := e2 8 _ (by decide) (Nat.le_refl _) tt0
  have ef := ETY_eq (T := T) q2 (fun t ht => e2 t _ ht tt0 (Nat.le_refl _))
  have rf : tR T (c2 0) = RR + 2 := (e2 8 _ (by decide) tt0 (Nat.le_refl _)).trans q3
  have eb := ETY_eq (T := T) s1 (fun t ht => e3 t _ ht (Nat.le_refl _) bb0)
  have rb : tR T (c3 0) = tR T3 (c3 0) := e3 8 _ (by decide) (Nat.le_refl _) bb0
  have ee := ETY_eq (T := T) s2 (fun t ht => e3 t _ ht bb0 (Nat.le_refl _))
  have re : tR T (c4 0) = rk + 1 := (e3 8 _ (by decide) bb0 (Nat.le_refl _)).trans s3
  rw [v0] at ef rf
  rw [x0] at ee re
  rw [v1] at eb rb
  rw [v1] at s5
  have hr2 : RR + 2 ≤ tR T2 (μ k 0) := by
    rcases Nat.lt_or_eq_of_le tt0 with x | x
    · have := q4 x; omega
    · rw [x, q3]; exact Nat.le_refl _
  obtain ⟨n0, n1, n2, n3, n4, n5, n6, n7⟩ := ETY_t en
  obtain ⟨w0, w1, w2, w3, w4, w5, w6, w7⟩ := ETY_t ee
  obtain ⟨m0, m1, m2, m3, m4, m5, m6, m7⟩ := ETY_t ef
  have kr0 : ∀ i, i < k → kq w T (r i) = Z 3 := fun i hi => by
    have := CHD_r h hi
    exact (kq_eq (e1 3 _ (by decide) (by omega) (by omega))).trans (y3 i (by omega) hi).2.2
  have krr : kq w T rr = Z 3 := (kq_eq (e3 3 _ (by decide) (by omega) (by omega))).trans (s6 rr rfl)
  obtain ⟨i1, i2, i3, kr⟩ := CHT_in (T := T) (C := C) (a := a) (b := z) (rk := rk) (S := fun i => i = e) h ht g0 ap zk e1 eC1 (by omega) ee (by omega) h26 (by omega) (fun i hi => by
    obtain ⟨l1, l2⟩ := rl i hi
    rcases Nat.eq_zero_or_pos i with q | q
    · exact Or.inl (l1 q)
    · have := CHD_r h (show i - 1 < k by omega)
      exact Or.inr ⟨r (i - 1), l2 q, by omega, by omega, kr0 (i - 1) (by omega)⟩)
  have ti := FRG_tr (T := T) (C := C) (a2 := a) (b2 := z) (Z := Z) (rk := rk) (m := m) (E := fun _ => False) (S := fun i => i = e) q7 ak zc2 e2 eC2 (fun i h1 h2 _ y => Or.inr (KOUT_eq y (fun t ht => e2 t i ht h1 (by omega)) (by omega))) (fun i h1 h2 y0 y => absurd (y.2.2.2.2.1.trans g0) y0) (fun _ => id) (fun _ y => absurd y id)
  have bo := FRG_tr (T := T) (C := C) (a2 := a) (b2 := z) (Z := Z) (rk := rk) (m := m) (E := fun _ => False) (S := fun i => i = rr) s7 a3 u4 e3 eC3 (fun i h1 h2 _ y => Or.inr (KOUT_eq y (fun t ht => e3 t i ht h1 (by omega)) (by omega))) (fun i h1 h2 y0 y => absurd (y.2.2.2.2.1.trans g0) y0) (fun _ => id) (fun _ => id)
  have kn' : kq w T n = Z 3 := by unfold kq; rw [if_neg (by omega)]; exact n3
  have ke' : kq w T e = Z 3 := by unfold kq; rw [if_neg (by omega)]; exact w3
  refine ⟨T, C, by rw [d0]; exact ej, by rw [u1]; exact ez, by rw [u1]; exact rz, fun _ => by rw [d0]; omega, by rw [d0]; omega, fun i hi => by rw [hi]; exact ke', fun i h1 h2 => ?_, fun i h1 h2 => ?_, fun i h1 h2 => ?_⟩
  · rcases Nat.lt_or_ge i (μ 0 0) with hi | hi
    · rcases Nat.lt_or_ge i n with hn | hn
      · obtain rfl : i = j := by omega
        exact NODE_26 (t := μ k 0) j1 ⟨j2, j3⟩ ej ek g0 (by omega) (by omega) h25j (by omega) ⟨Or.inl j4, Or.inr (Or.inl j5)⟩
      · obtain rfl : i = n := by omega
        refine NODE_0 (by omega) ⟨kn.2.1, kn.2.2.1⟩ en g0 (by omega) (by omega) (fun _ => ⟨fun y => by omega, fun y => by omega, fun y => by omega, fun y => by omega, fun y => by omega, fun y => by omega, fun y => by omega, fun y => by omega, fun y => by omega, fun y => by omega, fun y => by omega, fun y => ?_, fun y => by omega, fun y => by omega, fun y => by omega, fun y => by omega⟩) ⟨fun y => by omega, fun y => by omega, fun y yy => ?_, fun _ yy => ?_, fun y => by omega, fun y => by omega⟩ ⟨Or.inr ⟨rr, h28, by omega, by omega, krr.trans kn'.symm⟩, Or.inr (Or.inl kn.2.2.2)⟩
        · refine ⟨n4.trans g0, by omega, ?_, Or.inr ⟨f, h31, by omega, f + 1, h26f, by omega, NX_c (ETY_nx en eb (by omega)) n0.symm n1.symm⟩⟩
          rcases h25 with ⟨-, h25⟩ | ⟨hk, h25⟩
          · exact Or.inl h25
          have hc := y1 0 (by omega) hk
          obtain ⟨_, _, _, _, _, _, -, ⟨f41, -⟩, -⟩ := h.1 0 hk
          have clk' : μ 0 1 < μ k 1 := by
            have := (PTD_le (h.1 0 hk)).2.2.1
            have h2 := CHD_le h (k - 1) 1 (by omega) 1
            rw [show 1 + (k - 1) = k from by omega] at h2
            rw [show (0 : Nat) + 1 = 1 from rfl] at this
            omega
          have clk : μ 0 1 < z 1 := by
            have := zk 1
            omega
          refine Or.inr ⟨RR, by omega, μ 0 1, h25, clk, by omega, ?_⟩
          rw [n0, n1, n2, n3, n7]
          exact ⟨(eC1 0 _ (Nat.le_refl _) clk').trans hc.1, (eC1 1 _ (Nat.le_refl _) clk').trans hc.2.1, (eC1 2 _ (Nat.le_refl _) clk').trans hc.2.2.1, (eC1 4 _ (Nat.le_refl _) clk').trans hc.2.2.2.1, (eC1 5 _ (Nat.le_refl _) clk').trans hc.2.2.2.2.1, (eC1 6 _ (Nat.le_refl _) clk').trans hc.2.2.2.2.2.1, (eC1 7 _ (Nat.le_refl _) clk').trans hc.2.2.2.2.2.2⟩
        · rw [h31, Int.toNat_natCast, h26f]; omega
        · rcases h25 with ⟨-, h25⟩ | ⟨hk, h25⟩
          · exact absurd h25 yy
          · omega
    rcases Nat.lt_or_ge i (μ k 0) with hj | hj
    · exact i1 i hi hj
    rcases Nat.lt_or_ge i f with hf | hf
    · exact ti.1 i hj (by omega)
    rcases Nat.lt_or_ge i (f + 1) with hg | hg
    · obtain rfl : i = f := by omega
      refine NODE_0 (by omega) ⟨f2, f3⟩ ef g0 (by omega) (by omega) (fun _ => ⟨fun y => by omega, fun y => by omega, fun y => by omega, fun y => by omega, fun y => by omega, fun y => by omega, fun y => by omega, fun y => by omega, fun y => by omega, fun y => by omega, fun y => by omega, fun y => by omega, fun _ => ?_, fun y => by omega, fun y => by omega, fun y => by omega⟩) ⟨fun _ => by omega, fun y => by omega, fun y => by omega, fun y => by omega, fun y => by omega, fun _ => by omega⟩ ⟨Or.inl f4, Or.inr (Or.inl f5)⟩
      exact ⟨m4.trans g0, by omega, m, h27f, by omega, by omega, n, h25f, by omega, kn.1, by omega, NX_c (ETY_nx ef en (by omega)) (by omega) rfl⟩
    rcases Nat.lt_or_ge i e with hh' | hh'
    · refine NODE_S (bo.1 i (by omega) (by omega)) (fun hi => Or.inr ?_)
      rw [hi]
      rcases hr0 with ⟨-, q⟩ | ⟨hk, q⟩
      · exact Or.inl q
      · have := CHD_r h (show k - 1 < k by omega)
        exact Or.inr ⟨r (k - 1), q, by omega, by omega, (kr _ (by omega)).trans krr.symm⟩
    · obtain rfl : i = e := by omega
      exact NODE_30 ke.1 ⟨ke.2.1, ke.2.2.1⟩ ee ez g0 (by omega) (by omega) ⟨Or.inr ⟨rr, h28e, by omega, by omega, krr.trans ke'.symm⟩, Or.inl rfl⟩
  · rcases Nat.lt_or_ge i (μ k 1) with hj | hj
    · exact i2 i (by omega) hj
    rcases Nat.lt_or_ge i (c2 1) with hf | hf
    · exact ti.2.1 i hj hf
    · exact bo.2.1 i (by omega) (by omega)
  · rcases Nat.lt_or_ge i (μ k 3) with hj | hj
    · exact i3 i (by omega) hj
    rcases Nat.lt_or_ge i (c2 3) with hf | hf
    · exact ti.2.2 i hj hf
    · exact bo.2.2 i (by omega) (by omega)
end
end
section
section
variable {w w2 : MS} {T T1 : TY} {C C1 : CY} {Z Z1 a b c z a1 b1 c2 c3 c4 : Nat → Nat} {m mm X Y sh mm2 X2 Y2 sh2 lo rk SN n x y many hf j e u rr : Nat} {root : Int}
theorem SEQ_fun (hj : a 0 = j ∧ a 3 = u) (ha : a1 0 = j + 1 ∧ a1 1 = a 1 ∧ a1 3 = u + 1 ∧ ∀ i, a i ≤ a1 i) (h : PTD w SN true root a1 b1 many 0 mm2 X2 Y2 sh2 rr) (h45 : A w 45 (a 1) = -1) (h29 : A w 29 rr = -1) (hz : b1 0 = e ∧ z 0 = e + 1 ∧ z 1 = b1 1 ∧ z 3 = b1 3 ∧ ∀ i, b1 i ≤ z i) (kj : KND w j 26) (h25 : A w 25 j = ((e : Nat) : Int)) (ke : KND w e 14) (h25e : A w 25 e = ((u : Nat) : Int))
    (h53 : A w 53 u = ((a 1 : Nat) : Int)) (h54 : A w 54 u = ((hf : Nat) : Int)) (h55 : A w 55 u = ((x : Nat) : Int)) (hx : x + hf ≤ z 4) (hn : ∀ i, i < hf → NCO (A w 57 (x + i)) m sh) (hb : X2 + 6 ≤ 760 ∧ Y2 ≤ 26 ∧ sh2 ≤ hf ∧ mm2 + hf ≤ 40) (hr : lo ≤ m ∧ m ≤ mm ∧ 1 ≤ X) : SEQ w SN 0 a z 0 1 m m lo mm X Y sh (fun i => i = e) := by
  obtain ⟨a2, a3, a4, a5⟩ := ha
  obtain ⟨b2, b3, b4, b5, b6⟩ := hz
  obtain ⟨j1, j2, j3, j4, j5⟩ := kj
  obtain ⟨f1, f2, f3, f4, f5⟩ := ke
  have pl := PTD_le h
  have pl1 := pl.1 1
  have pl3 := pl.1 3
  have az : ∀ t, a t ≤ z t := fun t => Nat.le_trans (a5 t) (Nat.le_trans (pl.1 t) (b6 t))
  refine ⟨⟨az, fun _ => rfl, by omega, by omega, by omega, by omega, by omega, by omega, fun i hi => by omega⟩, fun Z hh rk z1 z2 z3 z4 z5 z6 z7 z8 z9 => ?_⟩
  have g0 : Z 4 = 0 := z7.1 rfl
  have ch : CHD w SN true root 1 (fun i => if i = 0 then a1 else b1) (fun _ => rr) many 0 mm2 X2 Y2 sh2 := by
    refine ⟨fun i hi => ?_, fun i hi => by omega, fun _ => by show A w 45 (a1 1) = -1; rw [a3]; exact h45⟩
    obtain rfl : i = 0 := Nat.lt_one_iff.mp hi
    exact h
  have hm6 : many ≤ 6 ∧ A w 41 (a1 1) = many := by
    obtain ⟨_, _, _, _, _, _, -, ⟨f41, fm, -⟩, -⟩ := h
    exact ⟨fm, f41⟩
  obtain ⟨T1, C1, ht⟩ := chain_ok (hg := many) (hb := 0) (Z := fun t => if t = 2 then hf else 0) (rk := 1) (RR := 1 + (e - (j + 1))) (fun t => tyc Z hh m (rk + 1) t 0) ch (by simp) (fun _ => by simp) (by omega) (by omega) (by simp; omega) (by simp; omega) (by simp; omega) (by simp) (by simp) (Nat.le_refl _) (by show 1 + (b1 0 - a1 0) ≤ _; omega) (by omega)
  obtain ⟨y1, y2, y3, y5, y4⟩ := ht
  replace y5 : ∀ t, t ≤ 8 → T1 t (b1 0) = tyc Z hh m (rk + 1) t 0 := y5
  replace y4 : FRG w T1 C1 (fun t => if t = 2 then hf else 0) 1 0 a1 b1 SN (CE true 1 fun i => if i = 0 then a1 else b1) (CS2 1 fun _ => rr) := y4
  obtain ⟨T, hT⟩ : ∃ T, T = cat (j + 1) (tyc Z hh m (rk + 2)) (cat (e + 1) T1 (tyc Z (hh + 1) m rk)) := ⟨_, rfl⟩
  have ej : ETY T Z hh m j := ETY_eq (T1 := tyc Z hh m (rk + 2)) tyc_e (fun t _ => by rw [hT]; exact cat_l (by omega))
  have rj : tR T j = rk + 2 := by rw [hT]; exact (cat_l (k := 8) (by omega)).trans (tyc_r (i := 0))
  have e1 : ∀ t i, t ≤ 8 → a1 0 ≤ i → i ≤ b1 0 → T t i = T1 t i := fun t i _ h1 h2 => by rw [hT, cat_r (by omega), cat_l (by omega)]
  have ez : ETY T Z (hh + 1) m (e + 1) := ETY_eq (T1 := tyc Z (hh + 1) m rk) tyc_e (fun t _ => by rw [hT, cat_r (by omega), cat_r (by omega)])
  have rz : tR T (e + 1) = rk := by rw [hT]; exact ((cat_r (k := 8) (by omega)).trans (cat_r (k := 8) (by omega))).trans (tyc_r (i := 0))
  clear hT
  have ee : ETY T Z hh m e := ETY_eq (T1 := fun t _ => tyc Z hh m (rk + 1) t 0) (tyc_e (i := 0)) (fun t ht => by rw [← b2]; exact (e1 t _ ht (by omega) (Nat.le_refl _)).trans (y5 t ht))
  have re : tR T e = rk + 1 := by rw [← b2]; exact ((e1 8 _ (by decide) (by omega) (Nat.le_refl _)).trans (y5 8 (by decide))).trans (tyc_r (i := 0))
  have inn := FRG_tr (T := T) (C := C1) (a2 := a) (b2 := z) (Z := Z) (rk := rk) (m := m) (E := fun _ => False) (S := fun i => i = rr) y4 a5 b6 e1 (fun _ _ _ _ => rfl) (fun i h1 h2 y0 y => by have := y.2.1; simp at this; omega) (fun i h1 h2 y0 y => by have := y.2.2.2.2.1; simp at this; exact absurd this y0) (fun i y => by cases y.1) (fun i y => by obtain ⟨_, _, q⟩ := y; exact q)
  obtain ⟨w0, w1, w2, w3, w4, w5, w6, w7⟩ := ETY_t ee
  have ke' : kq w T e = Z 3 := by unfold kq; rw [if_neg (by omega)]; exact w3
  have hc := y1 0 (Nat.le_refl _) (by decide)
  simp only [if_true] at hc
  refine ⟨T, C1, by rw [hj.1]; exact ej, by rw [b3]; exact ez, by rw [b3]; exact rz, fun _ => by rw [hj.1]; omega, by rw [hj.1]; omega, fun i hi => by rw [hi]; exact ke', fun i h1 h2 => ?_, fun i h1 h2 => inn.2.1 i (by omega) (by omega), fun i h1 h2 => ?_⟩
  · rcases Nat.lt_or_ge i (j + 1) with hi | hi
    · obtain rfl : i = j := by omega
      exact NODE_26 (t := e) j1 ⟨j2, j3⟩ ej ee g0 (by omega) (by omega) h25 (by omega) ⟨Or.inl j4, Or.inr (Or.inl j5)⟩
    rcases Nat.lt_or_ge i e with hi2 | hi2
    · exact NODE_S (inn.1 i (by omega) (by omega)) (fun q => Or.inr (Or.inl (by rw [q]; exact h29)))
    · obtain rfl : i = e := by omega
      refine NODE_0 (by omega) ⟨f2, f3⟩ ee g0 (by omega) (by omega) (fun _ => ⟨fun y => by omega, fun y => by omega, fun _ => ?_, fun y => by omega, fun y => by omega, fun y => by omega, fun y => by omega, fun y => by omega, fun y => by omega, fun y => by omega, fun y => by omega, fun y => by omega, fun y => by omega, fun y => by omega, fun y => by omega, fun y => by omega⟩) ⟨fun y => by omega, fun y => by omega, fun y => by omega, fun y => by omega, fun _ => by omega, fun y => by omega⟩ ⟨Or.inl f4, Or.inr (Or.inl f5)⟩
      refine ⟨w4.trans g0, ⟨u, h25e, by omega, fun i hi => ?_⟩, NX_c (ETY_nx ee ez (by omega)) (by omega) w1.symm⟩
      rw [h54] at hi
      rw [h55, Int.toNat_natCast, w1, w2]
      exact (hn i (by omega)).imp id (fun q => by omega)
  · rcases Nat.lt_or_ge i (u + 1) with hi | hi
    · obtain rfl : i = u := by omega
      refine ⟨⟨many, hf, 1 + (e - (j + 1)), h54, by omega, by omega, by omega, hm6.1, ?_⟩, by omega⟩
      rw [h53, ← a3]
      refine ⟨a1 1, rfl, by omega, hm6.2, ?_⟩
      have hc2 := hc
      simp at hc2
      exact hc2
    · exact inn.2.2 i (by omega) (by omega)
end
end
