section
variable {w w2 : MS} {T T1 : TY} {C C1 : CY} {Z Z1 a b c z a1 b1 p e p2 p3 : Nat → Nat} {g q q2 q3 m m2 m3 lo mm X Y sh lo2 mm2 X2 Y2 sh2 rk rk1 SN n x y many hg hb RR k cc mN gk : Nat} {R R1 R2 E S : Nat → Prop} {ret : Bool} {root : Int} {μ : Nat → Nat → Nat} {r : Nat → Nat}
theorem NODE_30 {hh : Nat} (hk : A w 23 n = 30) (ht : 0 ≤ A w 24 n ∧ A w 24 n < 4002) (ee : ETY T Z hh m2 n) (ez : ETY T Z hh m2 (n + 1)) (g0 : Z 4 = 0) (hr : rk < tR T n ∧ tR T n ≤ 16000 ∧ tR T (n + 1) < tR T n) (hb : hh ≤ 760 ∧ m2 + Z 2 ≤ 40 ∧ Z 5 ≤ hh ∧ Z 6 ≤ m2 ∧ Z 3 ≤ 26) (rn : RNK w T a b S n) : NODE w T C Z rk m a b SN E S n := by
  obtain ⟨w0, w1, w2, w3, w4, w5, w6, w7⟩ := ETY_t ee
  exact NODE_0 (by omega) ht ee g0 ⟨hr.1, hr.2.1⟩ hb (fun _ => ⟨fun y => by omega, fun y => by omega, fun y => by omega, fun y => by omega, fun y => by omega, fun y => by omega, fun y => by omega, fun y => by omega, fun y => by omega, fun y => by omega, fun y => by omega, fun y => by omega, fun y => by omega, fun y => by omega, fun _ => ⟨w4.trans g0, NX_c (ETY_nx ee ez hr.2.2) w0.symm w1.symm⟩, fun y => by omega⟩) ⟨fun y => by omega, fun y => by omega, fun y => by omega, fun y => by omega, fun y => by omega, fun y => by omega⟩ rn
theorem CHT_in {T0 : Nat → Nat} {f t : Nat} (h : CHD w SN false ((f : Nat) : Int) k μ r many m mm X Y sh) (ht : CHT w SN false k μ r m hg hb Z rk1 RR T0 0 T1 C1) (g0 : Z 4 = 0) (la : ∀ i, a i ≤ μ 0 i) (lb : ∀ i, μ k i ≤ b i) (eT : ∀ t i, t ≤ 8 → μ 0 0 ≤ i → i ≤ μ k 0 → T t i = T1 t i) (eC : ∀ t c, μ 0 1 ≤ c → c < μ k 1 → C t c = C1 t c) (hrk : rk ≤ rk1) (et : ETY T Z (hb + 1) m t) (hrt : tR T t ≤ rk1) (h26 : A w 26 f = ((t : Nat) : Int)) (h3 : a 0 ≤ t ∧ t ≤ b 0 ∧ a 0 ≤ f ∧ f < b 0) (rl : ∀ j, j < k → A w 29 (r j) = -1 ∨ ∃ x : Nat, A w 29 (r j) = x ∧ a 0 ≤ x ∧ x < b 0 ∧ kq w T x = Z 3) :
    (∀ i, μ 0 0 ≤ i → i < μ k 0 → NODE w T C Z rk m a b SN (fun _ => False) S i) ∧ (∀ c, μ 0 1 ≤ c → c < μ k 1 → CWD w T C id id (b 0 + 1) (b 1) (b 2) SN c ∧ CLO w a c) ∧ (∀ u, μ 0 3 ≤ u → u < μ k 3 → FNW w C a b u) ∧ ∀ j, j < k → kq w T (r j) = Z 3 := by
  obtain ⟨y1, y2, y3, y5, y4⟩ := ht
  have inn := FRG_tr (T := T) (C := C) (a2 := a) (b2 := b) (Z := Z) (rk := rk) (m := m) (E := CE false k μ) (S := CS2 k r) y4 la lb eT eC (fun i h1 h2 _ y => Or.inr (KOUT_eq y (fun t ht => eT t i ht h1 (by omega)) hrk)) (fun i h1 h2 y0 y => absurd (y.2.2.2.2.1.trans g0) y0) (fun _ => id) (fun _ => id)
  have kr : ∀ j, j < k → kq w T (r j) = Z 3 := fun j hj => by
    have := CHD_r h hj
    exact (kq_eq (eT 3 _ (by decide) (by omega) (by omega))).trans (y3 j (by omega) hj).2.2
  refine ⟨fun i h1 h2 => ?_, inn.2.1, inn.2.2, kr⟩
  have ni := inn.1 i h1 h2
  have hS : CS2 k r i → S i ∨ RNK w T a b S i := fun ⟨j, j1, j2⟩ => by
    refine Or.inr ⟨ni.2.2.2.2.2.2.2.1, Or.inr ?_⟩
    rw [j2, kr j j1]
    exact rl j j1
  by_cases hE : CE false k μ i
  · obtain ⟨-, j, j1, j2⟩ := hE
    have fi := PTD_fin (h.1 j j1)
    rw [show μ (j + 1) 0 - 1 = i from by omega] at fi
    obtain ⟨t1, t2, -⟩ := y3 j (by omega) j1
    rw [show μ (j + 1) 0 - 1 = i from by omega] at t1 t2
    have t3 : tR T i = tR T1 i := eT 8 i (by decide) h1 (by omega)
    exact NODE_E (NODE_j2 (f := f) (t := t) ni fi.1 (ETY_eq (t1 rfl) (fun t ht => eT t i ht h1 (by omega))) et g0 (by omega) fi.2.1 fi.2.2 h26 h3) id hS
  · exact NODE_E ni hE hS
theorem NODE_S (h1 : NODE w T C Z rk m a b SN (fun _ => False) S n) (hS : S n → R n ∨ A w 29 n = -1 ∨ ∃ x : Nat, A w 29 n = x ∧ a 0 ≤ x ∧ x < b 0 ∧ kq w T x = kq w T n) : NODE w T C Z rk m a b SN (fun _ => False) R n :=
  NODE_E h1 id (fun y => (hS y).imp id (fun q => ⟨h1.2.2.2.2.2.2.2.1, Or.inr q⟩))
end
