section
section
variable {w w2 : MS} {T T1 : TY} {C C1 : CY} {Z Z1 a b c z a1 b1 p e p2 p3 : Nat → Nat} {g q q2 q3 m m2 m3 lo mm X Y sh lo2 mm2 X2 Y2 sh2 rk SN n x y many hg hb RR k cc mN gk : Nat} {R R1 R2 E S : Nat → Prop} {ret : Bool} {root : Int} {μ : Nat → Nat → Nat} {r : Nat → Nat}
theorem NODE_0 {hh : Nat} (hk : 13 ≤ A w 23 n ∧ A w 23 n ≤ 31 ∧ A w 23 n ≠ 15 ∧ A w 23 n ≠ 20 ∧ A w 23 n ≠ 22 ∧ A w 23 n ≠ 23 ∧ A w 23 n ≠ 24 ∧ A w 23 n ≠ 25) (ht : 0 ≤ A w 24 n ∧ A w 24 n < 4002) (e : ETY T Z hh m2 n) (g0 : Z 4 = 0) (hr : rk < tR T n ∧ tR T n ≤ 16000) (hb : hh ≤ 760 ∧ m2 + Z 2 ≤ 40 ∧ Z 5 ≤ hh ∧ Z 6 ≤ m2 ∧ Z 3 ≤ 26) (wa : ¬ E n → WNa w T C id id (b 0 + 1) (b 1) (b 2) SN (b 3) 0 n) (lo : LOW w a b E n) (rn : RNK w T a b S n) : NODE w T C Z rk m a b SN E S n := by
  obtain ⟨n0, n1, n2, n3, n4, n5, n6, n7⟩ := ETY_t e
  exact ⟨⟨⟨by omega, by omega, by omega, by omega, by omega, by omega, by omega⟩, fun _ => Or.inr ⟨n7, n3, n2, Nat.le_of_eq n5.symm, Nat.le_of_eq n6.symm, hr.1⟩, fun y => absurd (n4.trans g0) y, by omega⟩, fun _ => wa, fun _ => ⟨fun y => by omega, fun y => by omega, fun y => by omega, fun y => by omega, fun y => by omega, fun y => by omega, fun y => by omega, fun y => by omega, fun y => by omega, fun y => by omega, fun y => by omega⟩, fun y => by omega, fun y => by omega, fun y => by omega, lo, rn⟩
theorem NODE_26 {hh t : Nat} (hk : A w 23 n = 26) (ht : 0 ≤ A w 24 n ∧ A w 24 n < 4002) (e : ETY T Z hh m2 n) (e2 : ETY T Z hh m2 t) (g0 : Z 4 = 0) (hr : rk < tR T n ∧ tR T n ≤ 16000 ∧ tR T t < tR T n) (hb : hh ≤ 760 ∧ m2 + Z 2 ≤ 40 ∧ Z 5 ≤ hh ∧ Z 6 ≤ m2 ∧ Z 3 ≤ 26) (h25 : A w 25 n = ((t : Nat) : Int)) (h3 : a 0 ≤ t ∧ t ≤ b 0) (rn : RNK w T a b S n) : NODE w T C Z rk m a b SN E S n := by
  refine NODE_0 (by omega) ht e g0 ⟨hr.1, hr.2.1⟩ hb (fun _ => ⟨fun y => by omega, fun y => by omega, fun y => by omega, fun y => by omega, fun y => by omega, fun y => by omega, fun y => by omega, fun y => by omega, fun y => by omega, fun y => by omega, fun y => by omega, fun y => by omega, fun y => by omega, fun y => by omega, fun y => by omega, fun _ => ⟨(ETY_t e).2.2.2.2.1.trans g0, Or.inl ⟨t, h25, by omega, ?_⟩⟩⟩) ⟨fun y => by omega, fun _ => ⟨fun _ => by omega, fun y => by omega⟩, fun y => by omega, fun y => by omega, fun y => by omega, fun y => by omega⟩ rn
  have := ETY_t e
  exact NX_c (ETY_nx e e2 hr.2.2) this.1.symm this.2.1.symm
theorem NODE_j2 {hh t f : Nat} (h1 : NODE w T C Z rk m a b SN E S n) (hk : A w 23 n = 26) (e : ETY T Z hh m2 n) (e2 : ETY T Z hh m2 t) (g0 : Z 4 = 0) (hr : tR T t < tR T n) (h25 : A w 25 n = -2) (h26 : A w 26 n = ((f : Nat) : Int)) (h26' : A w 26 f = ((t : Nat) : Int)) (h3 : a 0 ≤ t ∧ t ≤ b 0 ∧ a 0 ≤ f ∧ f < b 0) : NODE w T C Z rk m a b SN (fun _ => False) S n := by
  obtain ⟨y1, y2, y3, y4, y5, y6, y7, y8⟩ := h1
  have := ETY_t e
  refine ⟨y1, fun _ _ => ⟨fun y => by omega, fun y => by omega, fun y => by omega, fun y => by omega, fun y => by omega, fun y => by omega, fun y => by omega, fun y => by omega, fun y => by omega, fun y => by omega, fun y => by omega, fun y => by omega, fun y => by omega, fun y => by omega, fun y => by omega, fun _ => ⟨this.2.2.2.2.1.trans g0, Or.inr ⟨h25, f, h26, by omega, t, h26', by omega, NX_c (ETY_nx e e2 hr) this.1.symm this.2.1.symm⟩⟩⟩, y3, y4, y5, y6, ⟨fun y => by omega, fun _ => ⟨fun y => absurd h25 y, fun _ _ => ?_⟩, fun y => by omega, fun y => by omega, fun y => by omega, fun y => by omega⟩, y8⟩
  rw [h26, Int.toNat_natCast, h26']
  omega
theorem NODE_E (h1 : NODE w T C Z rk m a b SN E S n) (hE : ¬ E n) (hS : S n → R n ∨ RNK w T a b R n) : NODE w T C Z rk m a b SN (fun _ => False) R n := by
  obtain ⟨y1, y2, y3, y4, y5, y6, ⟨l1, l2, l3⟩, y8⟩ := h1
  refine ⟨y1, fun z _ => y2 z hE, y3, y4, y5, y6, ⟨l1, fun z => ⟨(l2 z).1, fun q _ => (l2 z).2 q hE⟩, l3⟩, y8.1, ?_⟩
  rcases y8.2 with q | q
  · rcases hS q with q | q
    · exact Or.inl q
    · exact q.2
  · exact Or.inr q
def RLS (w : MS) (k : Nat) (r : Nat → Nat) : Prop := ∀ j, j < k → (j = 0 → A w 29 (r j) = -1) ∧ (0 < j → A w 29 (r j) = ((r (j - 1) : Nat) : Int))
theorem PTD_m (h : PTD w SN ret root a b many m mm X Y sh x) : m ≤ mm ∧ 1 ≤ X := by
  obtain ⟨mN, mE, p, e, p2, p3, -, ⟨-, -, h1, h2, -⟩, -, ⟨-, h7⟩, -⟩ := h
  exact ⟨by omega, h7.1.2.2.2.2.2.2.2.1⟩
theorem PTD_fin (h : PTD w SN false root a b many m mm X Y sh x) : A w 23 (b 0 - 1) = 26 ∧ A w 25 (b 0 - 1) = -2 ∧ A w 26 (b 0 - 1) = root := by
  obtain ⟨mN, mE, p, e, p2, p3, -, -, -, -, ⟨-, o1, -⟩, fin⟩ := h
  rw [show b 0 - 1 = p3 0 from by omega]
  rcases fin with ⟨f1, -⟩ | ⟨-, -, f3, f4, f5⟩
  · cases f1
  · exact ⟨f3.1, f4, f5⟩
theorem CHD_r (h : CHD w SN ret root k μ r many m mm X Y sh) {j : Nat} (hj : j < k) : μ 0 0 ≤ r j ∧ r j < μ k 0 := by
  have p := PTD_le (h.1 j hj)
  have h1 := CHD_le h j 0 (by omega) 0
  have h2 := CHD_le h (k - (j + 1)) (j + 1) (by omega) 0
  rw [show j + 1 + (k - (j + 1)) = k from by omega] at h2
  rw [Nat.zero_add] at h1
  omega
theorem SEQ_choice (hq : (q = 1 ∧ A w 23 n = 21) ∨ (q = 0 ∧ A w 23 n = 31)) (o1 : ONE a (μ 0) n) (h : CHD w SN false ((n : Nat) : Int) k μ r q m mm X Y sh) (hk : 0 < k) (o2 : ONE (μ k) z (μ k 0)) (kn : 0 ≤ A w 24 n ∧ A w 24 n < 4002 ∧ A w 29 n = -1) (h25 : A w 25 n = ((μ 0 1 : Nat) : Int)) (h26 : A w 26 n = ((μ k 0 : Nat) : Int)) (h27 : A w 27 n = ((m : Nat) : Int)) (h28 : A w 28 n = ((r (k - 1) : Nat) : Int)) (ke : A w 23 (μ k 0) = 30 ∧ 0 ≤ A w 24 (μ k 0) ∧ A w 24 (μ k 0) < 4002 ∧ A w 29 (μ k 0) = -1) (h28e : A w 28 (μ k 0) = ((r (k - 1) : Nat) : Int)) (rl : RLS w k r) (hl : lo ≤ m) : SEQ w SN 0 a z q 1 m m lo mm (X + q) Y sh (fun i => i = μ k 0) := by
  obtain ⟨p0, p1, p2, p3, p4⟩ := o1
  obtain ⟨-, u1, u2, u3, u4⟩ := o2
  have pm := PTD_m (h.1 0 hk)
  have cl : ∀ t, μ 0 t ≤ μ k t := fun t => by
    have := CHD_le h k 0 (by omega) t
    rw [Nat.zero_add] at this
    exact this
  have c0 := cl 0
  refine ⟨⟨fun t => Nat.le_trans (p4 t) (Nat.le_trans (cl t) (u4 t)), fun _ => rfl, hl, hl, pm.1, pm.1, by omega, by omega, fun i hi => by omega⟩, fun Z hh rk z1 z2 z3 z4 z5 z6 z7 z8 z9 => ?_⟩
  have g0 : Z 4 = 0 := z7.1 rfl
  obtain ⟨T1, C1, y1, y2, y3, y5, y4⟩ := chain_ok (hg := hh + q) (hb := hh) (Z := Z) (rk := rk + 1) (RR := rk + 1 + (μ k 0 - μ 0 0)) (fun t => tyc Z (hh + 1) m (rk + 1) t 0) h g0 (fun y => by cases y) (by omega) (by omega) z4 z5 z6 (by omega) (by omega) (by omega) (Nat.le_refl _) (by omega)
  have en : ETY (cat (n + 1) (tyc Z (hh + q) m (rk + 2 + (μ k 0 - μ 0 0))) (cat (μ k 0 + 1) T1 (tyc Z (hh + 1) m rk))) Z (hh + q) m n := ETY_eq (T1 := tyc Z (hh + q) m (rk + 2 + (μ k 0 - μ 0 0))) tyc_e (fun k _ => cat_l (by omega))
  have e1 : ∀ k' i, k' ≤ 8 → n + 1 ≤ i → i ≤ μ k 0 → cat (n + 1) (tyc Z (hh + q) m (rk + 2 + (μ k 0 - μ 0 0))) (cat (μ k 0 + 1) T1 (tyc Z (hh + 1) m rk)) k' i = T1 k' i := fun k' i _ h1 h2 => by rw [cat_r h1, cat_l (by omega)]
  have ez : ETY (cat (n + 1) (tyc Z (hh + q) m (rk + 2 + (μ k 0 - μ 0 0))) (cat (μ k 0 + 1) T1 (tyc Z (hh + 1) m rk))) Z (hh + 1) m (μ k 0 + 1) := ETY_eq (T1 := tyc Z (hh + 1) m rk) tyc_e (fun k' _ => by rw [cat_r (by omega), cat_r (by omega)])
  have rz : tR (cat (n + 1) (tyc Z (hh + q) m (rk + 2 + (μ k 0 - μ 0 0))) (cat (μ k 0 + 1) T1 (tyc Z (hh + 1) m rk))) (μ k 0 + 1) = rk := by show cat _ _ _ 8 _ = _; rw [cat_r (by omega), cat_r (by omega)]; exact tyc_r (i := 0)
  have rn : tR (cat (n + 1) (tyc Z (hh + q) m (rk + 2 + (μ k 0 - μ 0 0))) (cat (μ k 0 + 1) T1 (tyc Z (hh + 1) m rk))) n = rk + 2 + (μ k 0 - μ 0 0) := by show cat _ _ _ 8 _ = _; rw [cat_l (by omega)]; exact tyc_r (i := 0)
  generalize cat (n + 1) (tyc Z (hh + q) m (rk + 2 + (μ k 0 - μ 0 0))) (cat (μ k 0 + 1) T1 (tyc Z (hh + 1) m rk)) = T at *
  have ee : ETY T Z (hh + 1) m (μ k 0) := ETY_eq (T1 := fun t _ => tyc Z (hh + 1) m (rk + 1) t 0) (tyc_e (i := 0)) (fun t ht => (e1 t _ ht (by omega) (Nat.le_refl _)).trans (y5 t ht))
  have re : tR T (μ k 0) = rk + 1 := ((e1 8 _ (by decide) (by omega) (Nat.le_refl _)).trans (y5 8 (by decide))).trans (tyc_r (i := 0))
  have inn := FRG_tr (T := T) (C := C1) (a2 := a) (b2 := z) (Z := Z) (rk := rk) (m := m) (E := CE false k μ) (S := CS2 k r) y4 p4 u4 (fun t i ht h1 h2 => e1 t i ht (by omega) h2) (fun _ _ _ _ => rfl) (fun i h1 h2 _ y => Or.inr (KOUT_eq y (fun t ht => e1 t i ht (by omega) (by omega)) (by omega))) (fun i h1 h2 y0 y => absurd (y.2.2.2.2.1.trans g0) y0) (fun _ => id) (fun _ => id)
  obtain ⟨n0, n1, n2, n3, n4, n5, n6, n7⟩ := ETY_t en
  obtain ⟨w0, w1, w2, w3, w4, w5, w6, w7⟩ := ETY_t ee
  have kr : ∀ j, j < k → kq w T (r j) = Z 3 := fun j hj => by
    have := CHD_r h hj
    exact (kq_eq (e1 3 _ (by decide) (by omega) (by omega))).trans (y3 j (by omega) hj).2.2
  have kn' : kq w T n = Z 3 := by unfold kq; rw [if_neg (by omega)]; exact n3
  have ke' : kq w T (μ k 0) = Z 3 := by unfold kq; rw [if_neg (by omega)]; exact w3
  have hd := CHD_r h (show k - 1 < k by omega)
  refine ⟨T, C1, by rw [p0]; exact en, by rw [u1]; exact ez, by rw [u1]; exact rz, fun _ => by rw [p0]; omega, by rw [p0]; omega, fun i hi => by rw [hi]; exact ke', fun i h1 h2 => ?_, fun i h1 h2 => inn.2.1 i (by omega) (by omega), fun i h1 h2 => inn.2.2 i (by omega) (by omega)⟩
  rcases Nat.lt_or_ge n i with hi | hi
  · rcases Nat.lt_or_ge i (μ k 0) with hj | hj
    · have ni := inn.1 i (by omega) hj
      have hS : CS2 k r i → (i = μ k 0) ∨ RNK w T a z (fun i => i = μ k 0) i := fun ⟨j, j1, j2⟩ => by
        refine Or.inr ⟨ni.2.2.2.2.2.2.2.1, ?_⟩
        obtain ⟨l1, l2⟩ := rl j j1
        rw [j2]
        rcases Nat.eq_zero_or_pos j with q | q
        · exact Or.inr (Or.inl (l1 q))
        · have := CHD_r h (show j - 1 < k by omega)
          exact Or.inr (Or.inr ⟨r (j - 1), l2 q, by omega, by omega, (kr (j - 1) (by omega)).trans (kr j j1).symm⟩)
      by_cases hE : CE false k μ i
      · obtain ⟨-, j, j1, j2⟩ := hE
        have fi := PTD_fin (h.1 j j1)
        rw [show μ (j + 1) 0 - 1 = i from by omega] at fi
        obtain ⟨t1, t2, -⟩ := y3 j (by omega) j1
        rw [show μ (j + 1) 0 - 1 = i from by omega] at t1 t2
        have t3 : tR T i = tR T1 i := e1 8 i (by decide) hi (by omega)
        exact NODE_E (NODE_j2 (f := n) (t := μ k 0) ni fi.1 (ETY_eq (t1 rfl) (fun t ht => e1 t i ht hi (by omega))) ee g0 (by omega) fi.2.1 fi.2.2 h26 (by omega)) id hS
      · exact NODE_E ni hE hS
    · obtain rfl : i = μ k 0 := by omega
      refine NODE_0 (by omega) ⟨ke.2.1, ke.2.2.1⟩ ee g0 (by omega) (by omega) (fun _ => ⟨fun y => by omega, fun y => by omega, fun y => by omega, fun y => by omega, fun y => by omega, fun y => by omega, fun y => by omega, fun y => by omega, fun y => by omega, fun y => by omega, fun y => by omega, fun y => by omega, fun y => by omega, fun y => by omega, fun _ => ⟨w4.trans g0, NX_c (ETY_nx ee ez (by omega)) w0.symm w1.symm⟩, fun y => by omega⟩) ⟨fun y => by omega, fun y => by omega, fun y => by omega, fun y => by omega, fun y => by omega, fun y => by omega⟩ ⟨Or.inr ⟨r (k - 1), h28e, by omega, by omega, (kr _ (by omega)).trans ke'.symm⟩, Or.inl rfl⟩
  · obtain rfl : i = n := by omega
    have hc := y1 0 (by omega) hk
    obtain ⟨_, _, _, _, _, _, -, ⟨f41, -⟩, -⟩ := h.1 0 hk
    have clk : μ 0 1 < z 1 := by
      have := (PTD_le (h.1 0 hk)).2.2.1
      have h2 := CHD_le h (k - 1) 1 (by omega) 1
      rw [show 1 + (k - 1) = k from by omega] at h2
      rw [show (0 : Nat) + 1 = 1 from rfl] at this
      omega
    refine NODE_0 (by omega) ⟨kn.1, kn.2.1⟩ en g0 (by omega) (by omega) (fun _ => ⟨fun y => by omega, fun y => by omega, fun y => by omega, fun y => by omega, fun y => by omega, fun y => by omega, fun y => by omega, fun y => by omega, fun y => by omega, fun y => ?_, fun y => ?_, fun y => by omega, fun y => by omega, fun y => by omega, fun y => by omega, fun y => by omega⟩) ⟨fun y => by omega, fun y => by omega, fun y => by omega, fun _ _ => by omega, fun y => by omega, fun y => by omega⟩ ⟨Or.inr ⟨r (k - 1), h28, by omega, by omega, (kr _ (by omega)).trans kn'.symm⟩, Or.inr (Or.inl kn.2.2)⟩
    · have q1 : q = 1 := by omega
      refine ⟨n4.trans g0, by omega, by omega, rk + 1 + (μ k 0 - μ 0 0), by omega, μ 0 1, h25, clk, by omega, ?_⟩
      rw [n0, n1, n2, n3, n7, hc.1, hc.2.1, hc.2.2.1, hc.2.2.2.1, hc.2.2.2.2.1, hc.2.2.2.2.2.1, hc.2.2.2.2.2.2]
      exact ⟨rfl, by omega, rfl, rfl, rfl, rfl, rfl⟩
    · have q1 : q = 0 := by omega
      refine ⟨n4.trans g0, by omega, rk + 1 + (μ k 0 - μ 0 0), by omega, μ 0 1, h25, clk, by omega, ?_⟩
      rw [n0, n1, n2, n3, n7, hc.1, hc.2.1, hc.2.2.1, hc.2.2.2.1, hc.2.2.2.2.1, hc.2.2.2.2.2.1, hc.2.2.2.2.2.2]
      exact ⟨rfl, by omega, rfl, rfl, rfl, rfl, rfl⟩
end
end
section
section
variable {w w2 : MS} {T T1 : TY} {C C1 : CY} {Z Z1 a b c z a1 b1 p e p2 p3 : Nat → Nat} {g q q2 q3 m m2 m3 lo mm X Y sh lo2 mm2 X2 Y2 sh2 rk rk1 SN n x y many hg hb RR k cc mN gk : Nat} {R R1 R2 E S : Nat → Prop} {ret : Bool} {root : Int} {μ : Nat → Nat → Nat} {r : Nat → Nat}
theorem NODE_30 {hh : Nat} (hk : A w 23 n = 30) (ht : 0 ≤ A w 24 n ∧ A w 24 n < 4002) (ee : ETY T Z hh m2 n) (ez : ETY T Z hh m2 (n + 1)) (g0 : Z 4 = 0) (hr : rk < tR T n ∧ tR T n ≤ 16000 ∧ tR T (n + 1) < tR T n) (hb : hh ≤ 760 ∧ m2 + Z 2 ≤ 40 ∧ Z 5 ≤ hh ∧ Z 6 ≤ m2 ∧ Z 3 ≤ 26) (rn : RNK w T a b S n) : NODE w T C Z rk m a b SN E S n := by
  obtain ⟨w0, w1, w2, w3, w4, w5, w6, w7⟩ := ETY_t ee
  exact NODE_0 (by omega) ht ee g0 ⟨hr.1, hr.2.1⟩ hb (fun _ => ⟨fun y => by omega, fun y => by omega, fun y => by omega, fun y => by omega, fun y => by omega, fun y => by omega, fun y => by omega, fun y => by omega, fun y => by omega, fun y => by omega, fun y => by omega, fun y => by omega, fun y => by omega, fun y => by omega, fun _ => ⟨w4.trans g0, NX_c (ETY_nx ee ez hr.2.2) w0.symm w1.symm⟩, fun y => by omega⟩) ⟨fun y => by omega, fun y => by omega, fun y => by omega, fun y => by omega, fun y => by omega, fun y => by omega⟩ rn
theorem CHT_in {T0 : Nat → Nat} {f t : Nat} (h : CHD w SN false ((f : Nat) : Int) k μ r many m mm X Y sh) (ht : CHT w SN false k μ r m hg hb Z rk1 RR T0 0 T1 C1) (g0 : Z 4 = 0) (la : ∀ i, a i ≤ μ 0 i) (lb : ∀ i, μ k i ≤ b i) (eT : ∀ t i, t ≤ 8 → μ 0 0 ≤ i → i ≤ μ k 0 → T t i = T1 t i) (eC : ∀ t c, μ 0 1 ≤ c → c < μ k 1 → C t c = C1 t c) (hrk : rk ≤ rk1) (et : ETY T Z (hb + 1) m t) (hrt : tR T t ≤ rk1) (h26 : A w 26 f = ((t : Nat) : Int)) (h3 : a 0 ≤ t ∧ t ≤ b 0 ∧ a 0 ≤ f ∧ f < b 0) (rl : ∀ j, j < k → A w 29 (r j) = -1 ∨ ∃ x : Nat, A w 29 (r j) = x ∧ a 0 ≤ x ∧ x < b 0 ∧ kq w T x = Z 3) :
    (∀ i, μ 0 0 ≤ i → i < μ k 0 → NODE w T C Z rk m a b SN (fun _ => False) S i) ∧ (∀ c, μ 0 1 ≤ c → c < μ k 1 → CWD w T C id id (b 0 + 1) (b 1) (b 2) SN c ∧ CLO w a c) ∧ (∀ u, μ 0 3 ≤ u → u < μ k 3 → FNW w C a b u) ∧ ∀ j, j < k → kq w T (r j) = Z 3 := by
  obtain ⟨y1, y2, y3, y5, y4⟩ := ht
  have inn := FRG_tr (T := T) (C := C) (a2 := a) (b2 := b) (Z := Z) (rk := rk) (m := m) (E := CE false k μ) (S := CS2 k r) y4 la lb eT eC (fun i h1 h2 _ y => Or.inr (KOUT_eq y (fun t ht => eT t i ht h1 (by omega)) hrk)) (fun i h1 h2 y0 y => absurd (y.2.2.2.2.1.trans g0) y0) (fun _ => id) (fun _ => id)
  have kr : ∀ j, j < k → kq w T (r j) = Z 3 := fun j hj => by
    have := CHD_r h hj
    exact (kq_eq (eT 3 _ (by decide) (by omega) (by omega))).trans (y3 j (by omega) hj).2.2
  refine ⟨fun i h1 h2 => ?_, inn.2.1, inn.2.2, kr⟩
  have ni := inn.1 i h1 h2
  have hS : CS2 k r i → S i ∨ RNK w T a b S i := fun ⟨j, j1, j2⟩ => by
    refine Or.inr ⟨ni.2.2.2.2.2.2.2.1, Or.inr ?_⟩
    rw [j2, kr j j1]
    exact rl j j1
  by_cases hE : CE false k μ i
  · obtain ⟨-, j, j1, j2⟩ := hE
    have fi := PTD_fin (h.1 j j1)
    rw [show μ (j + 1) 0 - 1 = i from by omega] at fi
    obtain ⟨t1, t2, -⟩ := y3 j (by omega) j1
    rw [show μ (j + 1) 0 - 1 = i from by omega] at t1 t2
    have t3 : tR T i = tR T1 i := eT 8 i (by decide) h1 (by omega)
    exact NODE_E (NODE_j2 (f := f) (t := t) ni fi.1 (ETY_eq (t1 rfl) (fun t ht => eT t i ht h1 (by omega))) et g0 (by omega) fi.2.1 fi.2.2 h26 h3) id hS
  · exact NODE_E ni hE hS
theorem NODE_S (h1 : NODE w T C Z rk m a b SN (fun _ => False) S n) (hS : S n → R n ∨ A w 29 n = -1 ∨ ∃ x : Nat, A w 29 n = x ∧ a 0 ≤ x ∧ x < b 0 ∧ kq w T x = kq w T n) : NODE w T C Z rk m a b SN (fun _ => False) R n :=
  NODE_E h1 id (fun y => (hS y).imp id (fun q => ⟨h1.2.2.2.2.2.2.2.1, Or.inr q⟩))
end
end
