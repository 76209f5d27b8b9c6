section
variable {w w2 : MS} {T T1 : TY} {C C1 : CY} {Z Z1 a b c z a1 b1 : Nat → Nat} {g q q2 q3 m m2 m3 lo mm X Y sh lo2 mm2 X2 Y2 sh2 rk SN n e x y many hg hb RR k : Nat} {R R1 R2 E S : Nat → Prop} {ret : Bool} {root : Int} {μ : Nat → Nat → Nat} {r : Nat → Nat}
def GRD (w : MS) (SN c : Nat) (p e p2 : Nat → Nat) (mN mm X Y sh : Nat) : Prop := (A w 42 c = -1 ∧ p2 = p) ∨ (A w 42 c = ((p 0 : Nat) : Int) ∧ SEQ w SN 2 p e 0 0 mN mN mN mm X Y sh (fun _ => False) ∧ KND w (e 0) 23 ∧ ONE e p2 (e 0))
def FIN (w : MS) (ret : Bool) (root : Int) (m mE j : Nat) : Prop := (ret = true ∧ KND w j 29) ∨ (ret = false ∧ mE = m ∧ KND w j 26 ∧ A w 25 j = -2 ∧ A w 26 j = root)
def SEQR (ret : Bool) (w : MS) (SN g : Nat) (a b : Nat → Nat) (q q2 m m2 lo mm X Y sh : Nat) (R : Nat → Prop) : Prop :=
  ((∀ i, a i ≤ b i) ∧ (g ≠ 0 → m2 = m) ∧ lo ≤ m ∧ lo ≤ m2 ∧ m ≤ mm ∧ m2 ≤ mm ∧ q ≤ X ∧ q2 ≤ X ∧ ∀ n, R n → a 0 ≤ n ∧ n < b 0) ∧
  ∀ (Z : Nat → Nat) (h rk : Nat), (ret = true → Z 3 = 0) → Z 5 ≤ h → Z 6 ≤ lo → h + X ≤ 760 → Z 3 + Y ≤ 26 → sh ≤ Z 2 → mm + Z 2 ≤ 40 → (g = 0 → Z 4 = 0) ∧ (g = 2 → Z 4 ≠ 0) → 1 ≤ rk → rk + (b 0 - a 0) ≤ 16000 →
    ∃ T C, ETY T Z (h + q) m (a 0) ∧ ETY T Z (h + q2) m2 (b 0) ∧ tR T (b 0) = rk ∧ (a 0 < b 0 → rk < tR T (a 0)) ∧ tR T (a 0) ≤ rk + (b 0 - a 0) ∧ (∀ n, R n → kq w T n = Z 3) ∧ FRG w T C Z rk m a b SN (fun _ => False) R
theorem SEQR_of (s : SEQ w SN g a b q q2 m m2 lo mm X Y sh R) : SEQR ret w SN g a b q q2 m m2 lo mm X Y sh R := ⟨s.1, fun Z h rk _ => s.2 Z h rk⟩
def PTD (w : MS) (SN : Nat) (ret : Bool) (root : Int) (a b : Nat → Nat) (many m mm X Y sh r : Nat) : Prop := ∃ (mN mE : Nat) (p e p2 p3 : Nat → Nat),
  (p 0 = a 0 ∧ p 1 = a 1 + 1 ∧ p 3 = a 3 ∧ ∀ i, a i ≤ p i) ∧ (A w 41 (a 1) = many ∧ many ≤ 6 ∧ m ≤ mN ∧ mN ≤ mm ∧ PATS w id id (p 2) SN sh m mN many (A w 40 (a 1))) ∧
  GRD w SN (a 1) p e p2 mN mm X Y sh ∧ (A w 43 (a 1) = ((p2 0 : Nat) : Int) ∧ SEQR ret w SN 0 p2 p3 0 1 mN mE m mm X Y sh (fun i => i = r)) ∧ ONE p3 b (p3 0) ∧ FIN w ret root m mE (p3 0)
theorem GRD_le {c mN : Nat} {p e p2 : Nat → Nat} (h : GRD w SN c p e p2 mN mm X Y sh) : ∀ i, p i ≤ p2 i := fun i => by
  rcases h with ⟨-, h⟩ | ⟨-, h, -, o⟩
  · rw [h]; exact Nat.le_refl _
  · exact Nat.le_trans (h.1.1 i) (o.2.2.2.2 i)
theorem PTD_le (h : PTD w SN ret root a b many m mm X Y sh x) : (∀ i, a i ≤ b i) ∧ a 0 < b 0 ∧ a 1 < b 1 ∧ a 0 ≤ x ∧ x < b 0 := by
  obtain ⟨mN, mE, p, e, p2, p3, ⟨h1, h2, h3, h4⟩, -, h6, ⟨-, h7⟩, h8, -⟩ := h
  have g := GRD_le h6
  have s := h7.1.1
  obtain ⟨o1, o2, o3, o4, o5⟩ := h8
  have r := h7.1.2.2.2.2.2.2.2.2 x rfl
  have g0 := g 0
  have g1 := g 1
  have s0 := s 0
  have s1 := s 1
  exact ⟨fun i => Nat.le_trans (h4 i) (Nat.le_trans (g i) (Nat.le_trans (s i) (o5 i))), by omega, by omega, by omega, by omega⟩
def CHD (w : MS) (SN : Nat) (ret : Bool) (root : Int) (k : Nat) (μ : Nat → Nat → Nat) (r : Nat → Nat) (many m mm X Y sh : Nat) : Prop := (∀ j, j < k → PTD w SN ret root (μ j) (μ (j + 1)) many m mm X Y sh (r j)) ∧ (∀ j, j + 1 < k → A w 45 (μ j 1) = ((μ (j + 1) 1 : Nat) : Int)) ∧ (0 < k → A w 45 (μ (k - 1) 1) = -1)
theorem CHD_le (h : CHD w SN ret root k μ r many m mm X Y sh) : ∀ d i, i + d ≤ k → ∀ t, μ i t ≤ μ (i + d) t := by
  intro d
  induction d with
  | zero => intro i _ t; exact Nat.le_refl _
  | succ d ih =>
    intro i hi t
    exact Nat.le_trans (ih i (by omega) t) ((PTD_le (h.1 (i + d) (by omega))).1 t)
def CE (ret : Bool) (k : Nat) (μ : Nat → Nat → Nat) (n : Nat) : Prop := ret = false ∧ ∃ j, j < k ∧ n + 1 = μ (j + 1) 0
def CS2 (k : Nat) (r : Nat → Nat) (n : Nat) : Prop := ∃ j, j < k ∧ n = r j
def CHT (w : MS) (SN : Nat) (ret : Bool) (k : Nat) (μ : Nat → Nat → Nat) (r : Nat → Nat) (m hg hb : Nat) (Z : Nat → Nat) (rk RR : Nat) (T0 : Nat → Nat) (i : Nat) (T : TY) (C : CY) : Prop :=
  (∀ j, i ≤ j → j < k → cH C (μ j 1) = hg ∧ cB C (μ j 1) = hb ∧ cM C (μ j 1) = m ∧ cL C (μ j 1) = Z 2 ∧ cK C (μ j 1) = Z 3 ∧ cC C (μ j 1) = Z 7 ∧ cR C (μ j 1) = RR) ∧
  (i < k → cT C (μ i 1) ≤ rk + (μ k 0 - μ i 0) ∧ rk ≤ cT C (μ i 1)) ∧
  (∀ j, i ≤ j → j < k → (ret = false → ETY T Z (hb + 1) m (μ (j + 1) 0 - 1)) ∧ rk < tR T (μ (j + 1) 0 - 1) ∧ kq w T (r j) = Z 3) ∧ (∀ t, t ≤ 8 → T t (μ k 0) = T0 t) ∧
  FRG w T C Z rk m (μ i) (μ k) SN (CE ret k μ) (CS2 k r)
theorem chain_end {T0 : Nat → Nat} : CHT w SN ret k μ r m hg hb Z rk RR T0 k (fun t _ => T0 t) (fun _ _ => 0) := ⟨fun j h1 h2 => by omega, fun h => by omega, fun j h1 h2 => by omega, fun _ _ => rfl, fun n h1 h2 => by omega, fun n h1 h2 => by omega, fun n h1 h2 => by omega⟩
theorem kq_eq {w : MS} {T T1 : TY} {n : Nat} (h : T 3 n = T1 3 n) : kq w T n = kq w T1 n := by unfold kq; rw [show tK T n = tK T1 n from h]
theorem NODE_ret (ke : KND w n 29) (e : ETY T Z (hb + 1) m2 n) (g0 : Z 4 = 0) (k0 : Z 3 = 0) (hr : rk < tR T n ∧ tR T n ≤ 16000) (hh : hb + 1 ≤ 760 ∧ m2 + Z 2 ≤ 40 ∧ Z 5 ≤ hb ∧ Z 6 ≤ m2) : NODE w T C Z rk m a b SN E S n := by
  obtain ⟨d1, d2, d3, d4, d5⟩ := ke
  obtain ⟨n0, n1, n2, n3, n4, n5, n6, n7⟩ := ETY_t e
  exact ⟨⟨⟨by omega, by omega, by omega, by omega, by omega, by omega, by omega⟩, fun y => absurd y (by omega), fun y => absurd (n4.trans g0) y, by omega⟩, fun _ _ => ⟨fun y => by omega, fun y => by omega, fun y => by omega, fun y => by omega, fun y => by omega, fun y => by omega, fun y => by omega, fun y => by omega, fun y => by omega, fun y => by omega, fun y => by omega, fun y => by omega, fun y => by omega, fun _ => ⟨n4.trans g0, by omega, by omega, by omega⟩, fun y => by omega, fun y => by omega⟩, fun _ => ⟨fun y => by omega, fun y => by omega, fun y => by omega, fun y => by omega, fun y => by omega, fun y => by omega, fun y => by omega, fun y => by omega, fun y => by omega, fun y => by omega, fun y => by omega⟩, fun y => by omega, fun y => by omega, fun y => by omega, ⟨fun y => by omega, fun y => by omega, fun y => by omega, fun y => by omega, fun y => by omega, fun y => by omega⟩, Or.inl d4, Or.inr (Or.inl d5)⟩
theorem NODE_jmp (ke : KND w n 26) (hE : E n) (h25 : A w 25 n = -2) (e : ETY T Z (hb + 1) m2 n) (g0 : Z 4 = 0) (hr : rk < tR T n ∧ tR T n ≤ 16000) (hh : hb + 1 ≤ 760 ∧ m2 + Z 2 ≤ 40 ∧ Z 5 ≤ hb ∧ Z 6 ≤ m2 ∧ Z 3 ≤ 26) : NODE w T C Z rk m a b SN E S n := by
  obtain ⟨d1, d2, d3, d4, d5⟩ := ke
  obtain ⟨n0, n1, n2, n3, n4, n5, n6, n7⟩ := ETY_t e
  exact ⟨⟨⟨by omega, by omega, by omega, by omega, by omega, by omega, by omega⟩, fun y => Or.inr ⟨n7, n3, n2, Nat.le_of_eq n5.symm, Nat.le_of_eq n6.symm, hr.1⟩, fun y => absurd (n4.trans g0) y, by omega⟩, fun _ y => absurd hE y, fun _ => ⟨fun y => by omega, fun y => by omega, fun y => by omega, fun y => by omega, fun y => by omega, fun y => by omega, fun y => by omega, fun y => by omega, fun y => by omega, fun y => by omega, fun y => by omega⟩, fun y => by omega, fun y => by omega, fun y => by omega, ⟨fun y => by omega, fun _ => ⟨fun y => absurd h25 y, fun _ y => absurd hE y⟩, fun y => by omega, fun y => by omega, fun y => by omega, fun y => by omega⟩, Or.inl d4, Or.inr (Or.inl d5)⟩
theorem NODE_guarded (ke : KND w n 23) (gi : GIN w T C a b n) (h23 : tH T n = cH C (tG T n - 1)) (ko : KOUT T Z rk n) (hg : tG T n ≠ 0) (hr : tR T n ≤ 16000) (hh : tH T n ≤ 760 ∧ tM T n + tL T n ≤ 40 ∧ tK T n ≤ 26 ∧ tB T n ≤ tH T n ∧ tD T n ≤ tM T n) : NODE w T C Z rk m a b SN E S n := by
  obtain ⟨d1, d2, d3, d4, d5⟩ := ke
  have : rk < tR T n := ko.2.2.2.2.2
  exact ⟨⟨⟨by omega, by omega, by omega, by omega, by omega, by omega, by omega⟩, fun y => Or.inr ko, fun y => Or.inl gi, by omega⟩, fun _ _ => ⟨fun y => by omega, fun y => by omega, fun y => by omega, fun y => by omega, fun y => by omega, fun y => by omega, fun y => by omega, fun y => by omega, fun y => by omega, fun y => by omega, fun y => by omega, fun y => by omega, fun y => by omega, fun y => by omega, fun y => by omega, fun y => by omega⟩, fun _ => ⟨fun y => by omega, fun y => by omega, fun y => by omega, fun y => by omega, fun y => by omega, fun y => by omega, fun y => by omega, fun y => by omega, fun y => by omega, fun y => by omega, fun y => ⟨hg, h23⟩⟩, fun y => by omega, fun y => by omega, fun y => by omega, ⟨fun y => by omega, fun y => by omega, fun y => by omega, fun y => by omega, fun y => by omega, fun y => by omega⟩, Or.inl d4, Or.inr (Or.inl d5)⟩
end
