section
set_option maxRecDepth 100000
def RWcK (u : MS) (d z : Nat) (E : Nat → Nat → Nat → Nat → Nat → Nat → Nat → Prop) : Nat → Nat → Nat → Nat → Nat → Nat → Nat → Nat → Prop
  | 0 => fun _ _ _ _ _ _ _ => False
  | k + 1 => fun n lo hi a b q r => ∃ m c s, E n lo m a c q s ∧ ((k = 0 ∧ A u 21 n = 0 ∧ m = hi ∧ c = b ∧ s = r) ∨ ((1 ≤ k ∧ (d = 1 → A u 6 m = ((z : Nat) : Int))) ∧ ∃ n2 : Nat, A u 21 n = ((n2 : Nat) : Int) ∧ RWcK u d z E k n2 (m + d) hi c b s r))
def ORcK (u : MS) (d z : Nat) (E : Nat → Nat → Nat → Nat → Nat → Nat → Nat → Prop) (k n lo hi a b q r : Nat) : Prop := (k = 0 ∧ n = 0 ∧ lo = hi ∧ a = b ∧ q = r) ∨ (1 ≤ k ∧ RWcK u d z E k n lo hi a b q r)
def RPcK (u : MS) (d z : Nat) (E : Nat → Nat → Nat → Nat → Nat → Nat → Nat → Prop) : Nat → Nat → Nat → Nat → Nat → Nat → Nat → Nat → Nat → Prop
  | 0 => fun _ _ _ _ _ _ _ _ => False
  | k + 1 => fun n l lo hi a b q r => (k = 0 ∧ n = l ∧ E l lo hi a b q r) ∨ (1 ≤ k ∧ ∃ l2 m c s : Nat, RPcK u d z E k n l2 lo m a c q s ∧ (A u 21 l2 = ((l : Nat) : Int) ∧ (d = 1 → A u 6 m = ((z : Nat) : Int))) ∧ E l (m + d) hi c b s r)
def TLcK (u : MS) (E : Nat → Nat → Nat → Nat → Nat → Nat → Nat → Prop) (n lo hi a q r : Nat) : Prop := ∃ k m mid c s : Nat, A u 18 n = ((m : Nat) : Int) ∧ A u 19 n = ((k : Nat) : Int) ∧ (k ≤ 8 ∧ A u 6 lo = 24 ∧ A u 6 (hi - 1) = 25) ∧ ORcK u 1 26 E k m (lo + 1) mid a c q s ∧ ((A u 20 n = 0 ∧ hi = mid + 1 ∧ s = r ∧ c < n) ∨ ((1 ≤ k ∧ A u 6 mid = 29) ∧ ∃ x c2 : Nat, A u 20 n = ((x : Nat) : Int) ∧ E x (mid + 1) (hi - 1) c c2 s r ∧ c2 < n))
def TUcK (u : MS) (E : Nat → Nat → Nat → Nat → Nat → Nat → Nat → Prop) (n lo hi a q r : Nat) : Prop := ∃ k m c : Nat, A u 18 n = ((m : Nat) : Int) ∧ A u 19 n = ((k : Nat) : Int) ∧ (k ≤ 8 ∧ A u 6 lo = 22 ∧ A u 6 (hi - 1) = 23) ∧ ORcK u 1 26 E k m (lo + 1) (hi - 1) a c q r ∧ c < n
def PAcK (u : MS) : Nat → Nat → Nat → Nat → Nat → Nat → Nat → Nat → Prop
  | 0 => fun _ _ _ _ _ _ _ => False
  | f + 1 => fun n lo hi a b q r => HDc n lo hi a b q r ∧ TKc u n lo hi ∧ q = r ∧ ((LFc u n lo ∧ hi = lo + 1) ∨ (A u 16 n = 17 ∧ ∃ m : Nat, A u 18 n = ((m : Nat) : Int) ∧ (a < m ∧ m ≤ b ∧ m ≠ n) ∧ LFc u m (lo + 1) ∧ A u 6 (lo + 1) = 1 ∧ (hi = lo + 2 ∧ A u 6 lo = 34)) ∨ (A u 16 n = 5 ∧ ∃ m c : Nat, A u 18 n = ((m : Nat) : Int) ∧ PAcK u f m (lo + 1) (hi - 1) a c q r ∧ (c < n ∧ A u 6 lo = 20 ∧ A u 6 (hi - 1) = 21)) ∨ (A u 16 n = 6 ∧ TUcK u (PAcK u f) n lo hi a q r) ∨ (A u 16 n = 7 ∧ TLcK u (PAcK u f) n lo hi a q r))
def PRTcK (u : MS) (Pa E G : Nat → Nat → Nat → Nat → Nat → Nat → Nat → Prop) (k n pl ph r0 hi a b q r : Nat) : Prop := (a < n ∧ n ≤ b) ∧ A u 16 n = 25 ∧ TKc u n 0 hi ∧ ∃ m c g m2 c1 s kb mb c2 : Nat, (A u 18 n = ((m : Nat) : Int) ∧ ORcK u 1 26 Pa k m pl ph a c q q) ∧ (A u 19 n = ((g : Nat) : Int) ∧ ((g = 0 ∧ m2 = r0 ∧ c1 = c ∧ s = q) ∨ ((1 ≤ g ∧ A u 6 r0 = 19) ∧ ∃ kg, RWcK u 1 26 G kg g (r0 + 1) m2 c c1 q s))) ∧ (A u 20 n = ((mb : Nat) : Int) ∧ RWcK u 1 26 E kb mb (m2 + 1) hi c1 c2 s r) ∧ (c2 < n ∧ A u 6 m2 = 38)
def CSPcK (u : MS) (Pa E G : Nat → Nat → Nat → Nat → Nat → Nat → Nat → Prop) (n lo hi a b q r : Nat) : Prop := HDc n lo hi a b q r ∧ ∃ m1, PRTcK u Pa E G 1 n lo m1 m1 hi a b q r
def CHPcK (u : MS) (E G : Nat → Nat → Nat → Nat → Nat → Nat → Nat → Prop) (n lo hi a b q r : Nat) : Prop := HDc n lo hi a b q r ∧ A u 16 n = 25 ∧ TKc u n 0 hi ∧ A u 18 n = 0 ∧ ∃ g kg m2 c1 s kb mb c2 : Nat, (A u 19 n = ((g : Nat) : Int) ∧ 1 ≤ g ∧ RWcK u 1 26 G kg g lo m2 a c1 q s) ∧ (A u 20 n = ((mb : Nat) : Int) ∧ RWcK u 1 26 E kb mb (m2 + 1) hi c1 c2 s r) ∧ (c2 < n ∧ A u 6 m2 = 38)
def AGcK (u : MS) (E : Nat → Nat → Nat → Nat → Nat → Nat → Nat → Prop) (n lo hi a b q r : Nat) : Prop := HDc n lo hi a b q r ∧ A u 16 n = 16 ∧ ∃ k m c : Nat, A u 18 n = ((m : Nat) : Int) ∧ A u 19 n = ((k : Nat) : Int) ∧ (k ≤ 6 ∧ A u 6 lo = 20 ∧ A u 6 (hi - 1) = 21) ∧ ORcK u 1 26 E k m (lo + 1) (hi - 1) a c q r ∧ c < n
def CLOk (u : MS) (y : Nat) (S : List Nat) : Prop := ∀ t S2, S = t :: S2 → rnkc (A u 6 t) < rnkc (A u 6 y) ∨ (rnkc (A u 6 t) = 4 ∧ rnkc (A u 6 y) = 4)
def POPk (u : MS) (y t : Nat) : Prop := rnkc (A u 6 y) ≤ rnkc (A u 6 t) ∧ ¬ (rnkc (A u 6 t) = 4 ∧ rnkc (A u 6 y) = 4) ∧ ¬ (rnkc (A u 6 t) = 3 ∧ rnkc (A u 6 y) = 3)
def STPcK (u : MS) (E : Nat → Nat → Nat → Nat → Nat → Nat → Nat → Prop) (l x x2 c c2 q r : Nat) (S : List Nat) (g : Bool) (S2 : List Nat) (g2 : Bool) : Prop :=
  ((∃ m, E l x m c c2 q r ∧ x2 = m + 1) ∧ g2 = true ∧ ((g = false ∧ S2 = S) ∨ (g = true ∧ S2 = (x - 1) :: S ∧ 3 ≤ rnkc (A u 6 (x - 1)) ∧ CLOk u (x - 1) S))) ∨
  ((x2 = x ∧ c < l ∧ c2 = l ∧ r = q) ∧ g = true ∧
    ((A u 16 l = 24 ∧ A u 17 l = ((x - 1 : Nat) : Int) ∧ A u 18 l = A u 6 (x - 1) ∧ (A u 6 (x - 1) = 6 ∨ A u 6 (x - 1) = 16) ∧ CLOk u (x - 1) S ∧ S2 = (x - 1) :: S ∧ g2 = false) ∨
    (A u 16 l = 23 ∧ ∃ t : Nat, S = t :: S2 ∧ A u 17 l = ((t : Nat) : Int) ∧ A u 18 l = A u 6 t ∧ POPk u (x - 1) t ∧ g2 = true)))
def SFcK (u : MS) (E : Nat → Nat → Nat → Nat → Nat → Nat → Nat → Prop) (hi b r : Nat) : Nat → Nat → Nat → Nat → Nat → List Nat → Bool → Prop
  | 0 => fun n x c q S g => n = 0 ∧ x = hi + 1 ∧ c = b ∧ q = r ∧ S = [] ∧ g = true
  | j + 1 => fun n x c q S g => 1 ≤ n ∧ ∃ n2 x2 c2 q2 S2 g2, STPcK u E n x x2 c c2 q q2 S g S2 g2 ∧ A u 21 n = ((n2 : Nat) : Int) ∧ SFcK u E hi b r j n2 x2 c2 q2 S2 g2
def SPcK (u : MS) (E : Nat → Nat → Nat → Nat → Nat → Nat → Nat → Prop) (n lo a q : Nat) : Nat → Nat → Nat → Nat → Nat → List Nat → Bool → Prop
  | 0 => fun _ _ _ _ _ _ => False
  | j + 1 => fun l x c r S g => (j = 0 ∧ n = l ∧ 1 ≤ l ∧ STPcK u E l lo x a c q r [] false S g) ∨ (1 ≤ j ∧ 1 ≤ l ∧ ∃ l2 x2 c2 r2 S2 g2, SPcK u E n lo a q j l2 x2 c2 r2 S2 g2 ∧ A u 21 l2 = ((l : Nat) : Int) ∧ STPcK u E l x2 x c2 c r2 r S2 g2 S g)
def XPcK (u : MS) : Nat → Nat → Nat → Nat → Nat → Nat → Nat → Nat → Nat → Nat → Prop
  | 0 => fun _ _ _ _ _ _ _ _ _ => False
  | f + 1 => fun o cl n lo hi a b q r => HDc n lo hi a b q r ∧ TKc u n lo hi ∧ o ≤ 25 ∧ (
    (LFc u n lo ∧ (hi = lo + 1 ∧ (A u 6 lo = 2 → A u 6 (lo + 1) ≠ 20)) ∧ q = r) ∨
    (A u 16 n = 5 ∧ ∃ m c : Nat, A u 18 n = ((m : Nat) : Int) ∧ XPcK u f (o + 1) 3 m (lo + 1) (hi - 1) a c q r ∧ (c < n ∧ A u 6 lo = 20 ∧ A u 6 (hi - 1) = 21 ∧ A u 17 n = ((lo : Nat) : Int))) ∨
    (A u 16 n = 6 ∧ TUcK u (XPcK u f (o + 1) 3) n lo hi a q r ∧ A u 17 n = ((lo : Nat) : Int)) ∨
    (A u 16 n = 7 ∧ TLcK u (XPcK u f (o + 1) 3) n lo hi a q r ∧ A u 17 n = ((lo : Nat) : Int)) ∨
    (A u 16 n = 8 ∧ ∃ k m c : Nat, A u 18 n = ((m : Nat) : Int) ∧ RWcK u 1 26 (XPcK u f (o + 2) 3) k m (lo + 1) (hi - 1) a c q r ∧ (c < n ∧ A u 6 lo = 7 ∧ A u 6 (hi - 1) = 11 ∧ A u 17 n = ((lo : Nat) : Int))) ∨
    (A u 16 n = 9 ∧ ∃ x mid c s k m c2 : Nat, A u 18 n = ((x : Nat) : Int) ∧ XPcK u f (o + 1) 3 x (lo + 1) mid a c q s ∧ A u 19 n = ((m : Nat) : Int) ∧ RWcK u 1 27 (CSPcK u (PAcK u f) (XPcK u f (o + 2) 3) (XPcK u f (o + 1) 3)) k m (mid + 1) (hi - 1) c c2 s r ∧ (c2 < n ∧ A u 6 lo = 8 ∧ A u 6 mid = 15 ∧ A u 6 (hi - 1) = 11 ∧ A u 17 n = ((lo : Nat) : Int))) ∨
    (A u 16 n = 10 ∧ ∃ k m c : Nat, A u 19 n = ((m : Nat) : Int) ∧ RWcK u 1 27 (CHPcK u (XPcK u f (o + 2) 3) (XPcK u f (o + 1) 3)) k m (lo + 1) (hi - 1) a c q r ∧ (c < n ∧ A u 6 lo = 13 ∧ A u 6 (hi - 1) = 11 ∧ A u 17 n = ((lo : Nat) : Int))) ∨
    (A u 16 n = 11 ∧ ∃ k m m1 c1 s1 : Nat, A u 19 n = ((m : Nat) : Int) ∧ ORcK u 1 27 (CSPcK u (PAcK u f) (XPcK u f (o + 2) 3) (XPcK u f (o + 1) 3)) k m (lo + 1) m1 a c1 q s1 ∧ ((A u 18 n = 0 ∧ A u 20 n = 0 ∧ 1 ≤ k ∧ hi = m1 + 1 ∧ s1 = r ∧ (c1 < n ∧ A u 6 lo = 17 ∧ A u 6 (hi - 1) = 11 ∧ A u 17 n = ((lo : Nat) : Int))) ∨ ∃ x m2 c2 s2 kb mb c3 : Nat, 1 ≤ x ∧ A u 18 n = ((x : Nat) : Int) ∧ XPcK u f (o + 1) 3 x (m1 + 1) m2 c1 c2 s1 s2 ∧ A u 20 n = ((mb : Nat) : Int) ∧ RWcK u 1 26 (XPcK u f (o + 2) 3) kb mb (m2 + 1) (hi - 1) c2 c3 s2 r ∧ (c3 < n ∧ A u 6 lo = 17 ∧ A u 6 m1 = 5 ∧ A u 6 m2 = 38 ∧ A u 6 (hi - 1) = 11 ∧ A u 17 n = ((lo : Nat) : Int)))) ∨
    (A u 16 n = 12 ∧ ∃ k m ph c : Nat, A u 17 n = ((lo : Nat) : Int) ∧ A u 18 n = (if q < 400 then ((q : Nat) : Int) else 0) ∧ A u 19 n = ((m : Nat) : Int) ∧ A u 20 n = ((hi - 1 : Nat) : Int) ∧ k ≤ 6 ∧ q + 1 ≤ r ∧ PRTcK u (PAcK u f) (XPcK u f (o + 2) 3) (XPcK u f (o + 1) 3) k m (lo + 2) ph (ph + 1) (hi - 1) a c (q + 1) r ∧ (c < n ∧ A u 6 lo = 12 ∧ A u 6 (lo + 1) = 20 ∧ A u 6 ph = 21 ∧ A u 6 (hi - 1) = 11)) ∨
    (A u 16 n = 13 ∧ (hi = lo + 4 ∧ A u 6 lo = 12 ∧ A u 6 (lo + 1) = 2 ∧ A u 6 (lo + 2) = 37 ∧ A u 6 (lo + 3) = 1 ∧ A u 17 n = ((lo : Nat) : Int) ∧ A u 18 n = A u 7 (lo + 1) ∧ A u 19 n = A u 7 (lo + 3)) ∧ q = r) ∨
    (A u 16 n = 14 ∧ A u 17 n = ((lo : Nat) : Int) ∧ ∃ k m a2 c : Nat, A u 19 n = ((m : Nat) : Int) ∧ A u 20 n = ((k : Nat) : Int) ∧ k ≤ 6 ∧ a ≤ a2 ∧ ORcK u 1 26 (XPcK u f (o + 1) 3) k m (lo + 2) (hi - 1) a2 c q r ∧ (c < n ∧ A u 6 lo = 2 ∧ A u 6 (lo + 1) = 20 ∧ A u 6 (hi - 1) = 21 ∧ A u 18 n = A u 7 lo)) ∨
    (A u 16 n = 15 ∧ 1 ≤ cl ∧ ∃ x mid c s k m : Nat, A u 18 n = ((x : Nat) : Int) ∧ XPcK u f o 0 x lo mid a c q s ∧ (c < n ∧ A u 17 n = ((lo : Nat) : Int)) ∧ A u 19 n = ((m : Nat) : Int) ∧ RWcK u 0 0 (AGcK u (XPcK u f (o + 1) 3)) k m mid hi n b s r) ∨
    ((A u 16 n = 17 ∨ A u 16 n = 18) ∧ 1 ≤ cl ∧ ∃ m c : Nat, A u 18 n = ((m : Nat) : Int) ∧ XPcK u f (o + 1) 1 m (lo + 1) hi a c q r ∧ (c < n ∧ (A u 16 n = 17 → A u 6 lo = 34) ∧ (A u 16 n = 18 → A u 6 lo = 14))) ∨
    (A u 16 n = 19 ∧ 3 ≤ cl ∧ ∃ m c : Nat, A u 18 n = ((m : Nat) : Int) ∧ XPcK u f (o + 1) 3 m (lo + 1) hi a c q r ∧ (c < n ∧ A u 6 lo = 9)) ∨
    (A u 16 n = 20 ∧ 3 ≤ cl ∧ ∃ x y mid c c2 : Nat, A u 18 n = ((x : Nat) : Int) ∧ PAcK u f x lo mid a c q q ∧ A u 19 n = ((y : Nat) : Int) ∧ XPcK u f (o + 1) 3 y (mid + 1) hi c c2 q r ∧ (c2 < n ∧ A u 6 mid = 30 ∧ A u 6 (mid + 1) ≠ 9)) ∨
    (A u 16 n = 21 ∧ 3 ≤ cl ∧ ∃ x y mid c c2 s : Nat, A u 18 n = ((x : Nat) : Int) ∧ XPcK u f o 2 x lo mid a c q s ∧ A u 19 n = ((y : Nat) : Int) ∧ XPcK u f (o + 1) 3 y (mid + 1) hi c c2 s r ∧ (c2 < n ∧ A u 6 mid = 36 ∧ A u 6 (mid + 1) ≠ 9)) ∨
    (A u 16 n = 22 ∧ 2 ≤ cl ∧ ∃ j m c : Nat, A u 18 n = ((m : Nat) : Int) ∧ SFcK u (XPcK u f o 1) hi c r j m lo a q [] false ∧ (c < n ∧ 2 ≤ j)))
section
variable {u w : MS} {a b n k d z lo hi q r l : Nat} {E E2 : Nat → Nat → Nat → Nat → Nat → Nat → Nat → Prop}
theorem KNc.a6 (h : KNc u w a b n) : A w 6 k = A u 6 k := by show (w.2.2.1 6 k).toInt = _; rw [h.1.1]; rfl
theorem KNc.a7 (h : KNc u w a b n) : A w 7 k = A u 7 k := by show (w.2.2.1 7 k).toInt = _; rw [h.1.2]; rfl
theorem RW_hdK (hb : BdE E) : ∀ {k n lo hi a b q r : Nat}, RWcK u d z E k n lo hi a b q r → HDc n lo hi a b q r ∧ 1 ≤ k
  | 0, _, _, _, _, _, _, _, h => h.elim
  | k + 1, n, lo, hi, a, b, q, r, h => by
    obtain ⟨m, c, s, e, h | ⟨h1, n2, h2, h3⟩⟩ := h
    · obtain ⟨rfl, -, rfl, rfl, rfl⟩ := h
      exact ⟨hb _ _ _ _ _ _ _ e, by omega⟩
    · obtain ⟨g, -⟩ := RW_hdK hb h3
      have := hb _ _ _ _ _ _ _ e
      unfold HDc at *
      refine ⟨⟨?_, ?_, ?_, ?_, ?_⟩, by omega⟩ <;> omega
theorem RW_kK (hs : StE u w E E2) (hb : BdE E) : ∀ {k n lo hi a2 b2 q r : Nat}, RWcK u d z E k n lo hi a2 b2 q r → KNc u w a2 b2 0 → RWcK w d z E2 k n lo hi a2 b2 q r
  | 0, _, _, _, _, _, _, _, h, _ => h
  | k + 1, n, lo, hi, a2, b2, q, r, h, kn => by
    obtain ⟨m, c, s, e, h⟩ := h
    have g := hb _ _ _ _ _ _ _ e
    have hc : c ≤ b2 := by
      rcases h with ⟨-, -, -, h, -⟩ | ⟨-, n2, -, h3⟩
      · omega
      · have := (RW_hdK hb h3).1.1
        omega
    have hn : a2 < n ∧ n ≤ b2 := by have := g.1; omega
    refine ⟨m, c, s, hs _ _ _ _ _ _ _ e (KNc.sub kn (Nat.le_refl _) hc (Or.inl (by omega))), ?_⟩
    rcases h with ⟨h1, h2, h3, h4, h5⟩ | ⟨h1, n2, h2, h3⟩
    · exact Or.inl ⟨h1, by rw [kn.nx hn (by omega)]; exact h2, h3, h4, h5⟩
    · exact Or.inr ⟨⟨h1.1, fun d1 => by rw [kn.a6]; exact h1.2 d1⟩, n2, by rw [kn.nx hn (by omega)]; exact h2, RW_kK hs hb h3 (KNc.sub kn (by have := g.1; omega) (Nat.le_refl _) (Or.inl (by omega)))⟩
theorem OR_kK (hs : StE u w E E2) (hb : BdE E) (h : ORcK u d z E k n lo hi a b q r) (kn : KNc u w a b 0) : ORcK w d z E2 k n lo hi a b q r := by
  rcases h with h | ⟨h1, h2⟩
  · exact Or.inl h
  · exact Or.inr ⟨h1, RW_kK hs hb h2 kn⟩
theorem OR_hdK (hb : BdE E) (h : ORcK u d z E k n lo hi a b q r) : a ≤ b ∧ lo ≤ hi ∧ b + 2 * lo ≤ a + 2 * hi ∧ q ≤ r ∧ 5 * r + lo ≤ 5 * q + hi := by
  rcases h with h | ⟨-, h⟩
  · omega
  · have := (RW_hdK hb h).1
    unfold HDc at this
    omega
theorem RP_hdK (hb : BdE E) : ∀ {k n l lo hi a b q r : Nat}, RPcK u d z E k n l lo hi a b q r → (a < l ∧ l ≤ b) ∧ (a < n ∧ n ≤ b) ∧ lo < hi ∧ b + 1 + 2 * lo ≤ a + 2 * hi ∧ q ≤ r ∧ 5 * r + lo ≤ 5 * q + hi
  | 0, _, _, _, _, _, _, _, _, h => h.elim
  | k + 1, n, l, lo, hi, a, b, q, r, h => by
    rcases h with ⟨h1, h2, e⟩ | ⟨h1, l2, m, c, s, h3, h4, e⟩
    · have g := hb _ _ _ _ _ _ _ e
      unfold HDc at g
      omega
    · have g := hb _ _ _ _ _ _ _ e
      have g2 := RP_hdK hb h3
      unfold HDc at g
      omega
theorem RP_kK (hs : StE u w E E2) (hb : BdE E) : ∀ {k n l lo hi a2 b2 q r : Nat}, RPcK u d z E k n l lo hi a2 b2 q r → KNc u w a2 b2 l → RPcK w d z E2 k n l lo hi a2 b2 q r
  | 0, _, _, _, _, _, _, _, _, h, _ => h
  | k + 1, n, l, lo, hi, a2, b2, q, r, h, kn => by
    rcases h with ⟨h1, h2, e⟩ | ⟨h1, l2, m, c, s, h3, h4, e⟩
    · exact Or.inl ⟨h1, h2, hs _ _ _ _ _ _ _ e kn⟩
    · have g := hb _ _ _ _ _ _ _ e
      have g2 := RP_hdK hb h3
      unfold HDc at g
      refine Or.inr ⟨h1, l2, m, c, s, RP_kK hs hb h3 (KNc.sub kn (Nat.le_refl _) (by omega) (Or.inr (Or.inl (by omega)))), ⟨by rw [kn.nx (by omega) (by omega)]; exact h4.1, fun d1 => by rw [kn.a6]; exact h4.2 d1⟩, hs _ _ _ _ _ _ _ e (KNc.sub kn (by omega) (Nat.le_refl _) (Or.inr (Or.inr rfl)))⟩
theorem RW_appK (hb : BdE E) : ∀ {k n l lo m a c q s j n2 hi b r : Nat}, RPcK u d z E k n l lo m a c q s → 1 ≤ j ∧ (d = 1 → A u 6 m = ((z : Nat) : Int)) → A u 21 l = ((n2 : Nat) : Int) → RWcK u d z E j n2 (m + d) hi c b s r → RWcK u d z E (k + j) n lo hi a b q r
  | 0, _, _, _, _, _, _, _, _, _, _, _, _, _, h, _, _, _ => h.elim
  | k + 1, n, l, lo, m, a, c, q, s, j, n2, hi, b, r, h, hj, h2, h3 => by
    rcases h with ⟨rfl, rfl, e⟩ | ⟨h1, l2, m2, c2, s2, h4, h5, e⟩
    · rw [show 0 + 1 + j = j + 1 by omega]
      exact ⟨m, c, s, e, Or.inr ⟨hj, n2, h2, h3⟩⟩
    · rw [show k + 1 + j = k + (j + 1) by omega]
      exact RW_appK hb h4 ⟨by omega, h5.2⟩ h5.1 ⟨m, c, s, e, Or.inr ⟨hj, n2, h2, h3⟩⟩
theorem RW_ofK (hb : BdE E) : ∀ {k n l lo hi a b q r : Nat}, RPcK u d z E k n l lo hi a b q r → A u 21 l = 0 → RWcK u d z E k n lo hi a b q r
  | 0, _, _, _, _, _, _, _, _, h, _ => h.elim
  | k + 1, n, l, lo, hi, a, b, q, r, h, h0 => by
    rcases h with ⟨rfl, rfl, e⟩ | ⟨h1, l2, m2, c2, s2, h4, h5, e⟩
    · exact ⟨hi, b, r, e, Or.inl ⟨rfl, h0, rfl, rfl, rfl⟩⟩
    · exact RW_appK hb h4 ⟨by omega, h5.2⟩ h5.1 ⟨hi, b, r, e, Or.inl ⟨rfl, h0, rfl, rfl, rfl⟩⟩
end
end
section
set_option maxRecDepth 100000
section
variable {u w : MS} {a b n k d z lo hi q r l : Nat} {E E2 G G2 Pa Pa2 : Nat → Nat → Nat → Nat → Nat → Nat → Nat → Prop}
theorem TU_kK (hs : StE u w E E2) (hb : BdE E) (h : TUcK u E n lo hi a q r) (kn : KNc u w a b n) (hn : a < n ∧ n ≤ b) : TUcK w E2 n lo hi a q r := by
  obtain ⟨g1, g2, g3, g4, g5⟩ := kn.g hn
  obtain ⟨k, m, c, h1, h2, h3, h4, h5⟩ := h
  exact ⟨k, m, c, by rw [g3]; exact h1, by rw [g4]; exact h2, ⟨h3.1, by rw [kn.a6]; exact h3.2.1, by rw [kn.a6]; exact h3.2.2⟩, OR_kK hs hb h4 (kn.in0 (Nat.le_refl _) h5 hn.2), h5⟩
theorem TL_kK (hs : StE u w E E2) (hb : BdE E) (h : TLcK u E n lo hi a q r) (kn : KNc u w a b n) (hn : a < n ∧ n ≤ b) : TLcK w E2 n lo hi a q r := by
  obtain ⟨g1, g2, g3, g4, g5⟩ := kn.g hn
  obtain ⟨k, m, mid, c, s, h1, h2, h3, h4, h5⟩ := h
  have hc : c < n := by
    rcases h5 with ⟨-, -, -, h⟩ | ⟨-, x, c2, -, h6, h7⟩
    · exact h
    · have := (hb _ _ _ _ _ _ _ h6).1; omega
  have ho := OR_hdK hb h4
  refine ⟨k, m, mid, c, s, by rw [g3]; exact h1, by rw [g4]; exact h2, ⟨h3.1, by rw [kn.a6]; exact h3.2.1, by rw [kn.a6]; exact h3.2.2⟩, OR_kK hs hb h4 (kn.in0 (Nat.le_refl _) hc hn.2), ?_⟩
  rcases h5 with ⟨h5, h6⟩ | ⟨h5, x, c2, h6, h7, h8⟩
  · exact Or.inl ⟨by rw [g5]; exact h5, h6⟩
  · exact Or.inr ⟨⟨h5.1, by rw [kn.a6]; exact h5.2⟩, x, c2, by rw [g5]; exact h6, hs _ _ _ _ _ _ _ h7 (KNc.sub kn (by omega) (by omega) (Or.inr (Or.inl (by omega)))), h8⟩
theorem PA_bdK (f : Nat) : BdE (PAcK u f) := fun n lo hi a b q r h => by
  cases f with
  | zero => exact h.elim
  | succ f => exact h.1
theorem PA_kK : ∀ {f f2 : Nat}, f ≤ f2 → StE u w (PAcK u f) (PAcK w f2)
  | 0, _, _, _, _, _, _, _, _, _, h, _ => h.elim
  | f + 1, 0, h, _, _, _, _, _, _, _, _, _ => by omega
  | f + 1, f2 + 1, hf, n, lo, hi, a2, b2, q, r, h, kn => by
    obtain ⟨h1, h2, h3, h4⟩ := h
    have hn := h1.1
    obtain ⟨g1, g2, g3, g4, g5⟩ := kn.g hn
    have e6 : A w 6 (lo + 1) = A u 6 (lo + 1) := by show (w.2.2.1 6 (lo + 1)).toInt = _; rw [kn.1.1]; rfl
    have hs : StE u w (PAcK u f) (PAcK w f2) := PA_kK (by omega)
    refine ⟨h1, TK_k h2 kn hn, h3, ?_⟩
    rw [g1]
    rcases h4 with ⟨h4, h5⟩ | ⟨h4, m, h5, h6, h7, h8, h9, h10⟩ | ⟨h4, m, c, h5, h6, h7⟩ | ⟨h4, h5⟩ | ⟨h4, h5⟩
    · exact Or.inl ⟨LF_k h4 kn hn, h5⟩
    · exact Or.inr (Or.inl ⟨h4, m, by rw [g3]; exact h5, h6, LF_k h7 kn ⟨h6.1, h6.2.1⟩, by rw [e6]; exact h8, h9, by rw [kn.a6]; exact h10⟩)
    · exact Or.inr (Or.inr (Or.inl ⟨h4, m, c, by rw [g3]; exact h5, hs _ _ _ _ _ _ _ h6 (KNc.sub kn (Nat.le_refl _) (by omega) (Or.inr (Or.inl (by omega)))), h7.1, by rw [kn.a6]; exact h7.2.1, by rw [kn.a6]; exact h7.2.2⟩))
    · exact Or.inr (Or.inr (Or.inr (Or.inl ⟨h4, TU_kK hs (PA_bdK f) h5 kn hn⟩)))
    · exact Or.inr (Or.inr (Or.inr (Or.inr ⟨h4, TL_kK hs (PA_bdK f) h5 kn hn⟩)))
theorem PRT_kK {pl ph r0 : Nat} (hp : StE u w Pa Pa2) (hs : StE u w E E2) (hg : StE u w G G2) (bp : BdE Pa) (be : BdE E) (bg : BdE G) (h : PRTcK u Pa E G k n pl ph r0 hi a b q r) (kn : KNc u w a b n) : PRTcK w Pa2 E2 G2 k n pl ph r0 hi a b q r := by
  obtain ⟨hn, h1, h2, m, c, g, m2, c1, s, kb, mb, c2, ⟨h3, h4⟩, ⟨h5, h6⟩, ⟨h7, h8⟩, h9⟩ := h
  obtain ⟨g1, g2, g3, g4, g5⟩ := kn.g hn
  have o1 := OR_hdK bp h4
  have o3 := (RW_hdK be h8).1.1
  have o2 : c ≤ c1 := by
    rcases h6 with h6 | ⟨-, kg, h6⟩
    · omega
    · have := (RW_hdK bg h6).1.1; omega
  refine ⟨hn, by rw [g1]; exact h1, TK_k h2 kn hn, m, c, g, m2, c1, s, kb, mb, c2, ⟨by rw [g3]; exact h3, OR_kK hp bp h4 (kn.in0 (Nat.le_refl _) (by omega) hn.2)⟩, ⟨by rw [g4]; exact h5, ?_⟩, ⟨by rw [g5]; exact h7, RW_kK hs be h8 (kn.in0 (by omega) h9.1 hn.2)⟩, h9.1, by rw [kn.a6]; exact h9.2⟩
  rcases h6 with h6 | ⟨h6, kg, h7⟩
  · exact Or.inl h6
  · exact Or.inr ⟨⟨h6.1, by rw [kn.a6]; exact h6.2⟩, kg, RW_kK hg bg h7 (kn.in0 (by omega) (by omega) hn.2)⟩
theorem CSP_bdK : BdE (CSPcK u Pa E G) := fun _ _ _ _ _ _ _ h => h.1
theorem CSP_kK (hp : StE u w Pa Pa2) (hs : StE u w E E2) (hg : StE u w G G2) (bp : BdE Pa) (be : BdE E) (bg : BdE G) : StE u w (CSPcK u Pa E G) (CSPcK w Pa2 E2 G2) := fun n lo hi a2 b2 q r h kn => by
  obtain ⟨h1, m1, h2⟩ := h
  exact ⟨h1, m1, PRT_kK hp hs hg bp be bg h2 kn⟩
theorem CHP_bdK : BdE (CHPcK u E G) := fun _ _ _ _ _ _ _ h => h.1
theorem CHP_kK (hs : StE u w E E2) (hg : StE u w G G2) (be : BdE E) (bg : BdE G) : StE u w (CHPcK u E G) (CHPcK w E2 G2) := fun n lo hi a2 b2 q r h kn => by
  obtain ⟨h0, h1, h2, h3, g, kg, m2, c1, s, kb, mb, c2, ⟨h4, h5, h6⟩, ⟨h7, h8⟩, h9⟩ := h
  have hn := h0.1
  obtain ⟨g1, g2, g3, g4, g5⟩ := kn.g hn
  have o3 := (RW_hdK be h8).1.1
  have o2 := (RW_hdK bg h6).1.1
  exact ⟨h0, by rw [g1]; exact h1, TK_k h2 kn hn, by rw [g3]; exact h3, g, kg, m2, c1, s, kb, mb, c2, ⟨by rw [g4]; exact h4, h5, RW_kK hg bg h6 (kn.in0 (Nat.le_refl _) (by omega) hn.2)⟩, ⟨by rw [g5]; exact h7, RW_kK hs be h8 (kn.in0 (by omega) h9.1 hn.2)⟩, h9.1, by rw [kn.a6]; exact h9.2⟩
theorem AG_bdK : BdE (AGcK u E) := fun _ _ _ _ _ _ _ h => h.1
theorem AG_kK (hs : StE u w E E2) (be : BdE E) : StE u w (AGcK u E) (AGcK w E2) := fun n lo hi a2 b2 q r h kn => by
  obtain ⟨h0, h1, k, m, c, h2, h3, h4, h5, h6⟩ := h
  have hn := h0.1
  obtain ⟨g1, g2, g3, g4, g5⟩ := kn.g hn
  exact ⟨h0, by rw [g1]; exact h1, k, m, c, by rw [g3]; exact h2, by rw [g4]; exact h3, ⟨h4.1, by rw [kn.a6]; exact h4.2.1, by rw [kn.a6]; exact h4.2.2⟩, OR_kK hs be h5 (kn.in0 (Nat.le_refl _) (by omega) hn.2), h6⟩
theorem STP_hdK (hb : BdE E) {x x2 c c2 : Nat} {S S2 : List Nat} {g g2 : Bool} (h : STPcK u E l x x2 c c2 q r S g S2 g2) : (c < l ∧ l ≤ c2) ∧ x ≤ x2 ∧ q ≤ r ∧ 5 * r + x ≤ 5 * q + x2 := by
  rcases h with ⟨⟨m, h1, h2⟩, h3, -⟩ | ⟨⟨h1, h2, h3, h4⟩, -, h5⟩
  · have := hb _ _ _ _ _ _ _ h1
    unfold HDc at this
    omega
  · omega
theorem CLO_k {y : Nat} {S : List Nat} (h : CLOk u y S) (e : ∀ t, A w 6 t = A u 6 t) : CLOk w y S := fun t S2 hS => by rw [e, e]; exact h t S2 hS
theorem POP_k {y t : Nat} (h : POPk u y t) (e : ∀ t, A w 6 t = A u 6 t) : POPk w y t := by
  unfold POPk
  rw [e, e]
  exact h
theorem STP_kK (hs : StE u w E E2) (hb : BdE E) {x x2 c c2 : Nat} {S S2 : List Nat} {g g2 : Bool} (h : STPcK u E l x x2 c c2 q r S g S2 g2) (kn : KNc u w c c2 l) : STPcK w E2 l x x2 c c2 q r S g S2 g2 := by
  have e6 : ∀ t, A w 6 t = A u 6 t := fun t => kn.a6
  rcases h with ⟨⟨m, h1, h2⟩, h3, h4⟩ | ⟨h1, h2, h3⟩
  · refine Or.inl ⟨⟨m, hs _ _ _ _ _ _ _ h1 kn, h2⟩, h3, ?_⟩
    rcases h4 with h4 | ⟨h4, h5, h6, h7⟩
    · exact Or.inl h4
    · exact Or.inr ⟨h4, h5, by rw [e6]; exact h6, CLO_k h7 e6⟩
  · have hn : c < l ∧ l ≤ c2 := by omega
    obtain ⟨g1, g2, g3, g4, g5⟩ := kn.g hn
    refine Or.inr ⟨h1, h2, ?_⟩
    rw [g1, g2, g3, e6]
    rcases h3 with ⟨h3, h4, h5, h6, h7, h8⟩ | ⟨h3, t, h4, h5, h6, h7, h8⟩
    · exact Or.inl ⟨h3, h4, h5, h6, CLO_k h7 e6, h8⟩
    · exact Or.inr ⟨h3, t, h4, h5, by rw [e6]; exact h6, POP_k h7 e6, h8⟩
theorem SF_leK (hb : BdE E) : ∀ {j n x c q : Nat} {S : List Nat} {g : Bool}, SFcK u E hi b r j n x c q S g → c ≤ b
  | 0, _, _, _, _, _, _, h => by have := h.2.2.1; omega
  | j + 1, n, x, c, q, S, g, h => by
    obtain ⟨h0, n2, x2, c2, q2, S2, g2, h1, h2, h3⟩ := h
    have g := STP_hdK hb h1
    have := SF_leK hb h3
    omega
theorem SF_kK (hs : StE u w E E2) (hb : BdE E) : ∀ {j n x c q : Nat} {S : List Nat} {g : Bool}, SFcK u E hi b r j n x c q S g → KNc u w c b 0 → SFcK w E2 hi b r j n x c q S g
  | 0, _, _, _, _, _, _, h, _ => h
  | j + 1, n, x, c, q, S, g, h, kn => by
    obtain ⟨h0, n2, x2, c2, q2, S2, g2, h1, h2, h3⟩ := h
    have g := STP_hdK hb h1
    have g2 : c2 ≤ b := SF_leK hb h3
    exact ⟨h0, n2, x2, c2, q2, S2, _, STP_kK hs hb h1 (KNc.sub kn (Nat.le_refl _) g2 (Or.inl (by omega))), by rw [kn.nx (by omega) (by omega)]; exact h2, SF_kK hs hb h3 (KNc.sub kn (by omega) (Nat.le_refl _) (Or.inl (by omega)))⟩
theorem SP_hdK (hb : BdE E) : ∀ {j l x c r : Nat} {S : List Nat} {g : Bool}, SPcK u E n lo a q j l x c r S g → (a < l ∧ l ≤ c) ∧ lo ≤ x ∧ q ≤ r ∧ 5 * r + lo ≤ 5 * q + x
  | 0, _, _, _, _, _, _, h => h.elim
  | j + 1, l, x, c, r, S, g, h => by
    rcases h with ⟨h1, h2, h0, h3⟩ | ⟨h1, h0, l2, x2, c2, r2, S2, g2, h2, h3, h4⟩
    · exact STP_hdK hb h3
    · have g := STP_hdK hb h4
      have g2 := SP_hdK hb h2
      omega
theorem SP_kK (hs : StE u w E E2) (hb : BdE E) : ∀ {j l x c r : Nat} {S : List Nat} {g : Bool}, SPcK u E n lo a q j l x c r S g → KNc u w a c l → SPcK w E2 n lo a q j l x c r S g
  | 0, _, _, _, _, _, _, h, _ => h
  | j + 1, l, x, c, r, S, g, h, kn => by
    rcases h with ⟨h1, h2, h0, h3⟩ | ⟨h1, h0, l2, x2, c2, r2, S2, g2, h2, h3, h4⟩
    · exact Or.inl ⟨h1, h2, h0, STP_kK hs hb h3 kn⟩
    · have g3 := STP_hdK hb h4
      have g4 := SP_hdK hb h2
      exact Or.inr ⟨h1, h0, l2, x2, c2, r2, S2, g2, SP_kK hs hb h2 (KNc.sub kn (Nat.le_refl _) (by omega) (Or.inr (Or.inl (by omega)))), by rw [kn.nx (by omega) (by omega)]; exact h3, STP_kK hs hb h4 (KNc.sub kn (by omega) (Nat.le_refl _) (Or.inr (Or.inr rfl)))⟩
theorem SF_appK : ∀ {j l x c r i n2 hi b r2 : Nat} {S : List Nat} {g : Bool}, SPcK u E n lo a q j l x c r S g → A u 21 l = ((n2 : Nat) : Int) → SFcK u E hi b r2 i n2 x c r S g → SFcK u E hi b r2 (j + i) n lo a q [] false
  | 0, _, _, _, _, _, _, _, _, _, _, _, h, _, _ => h.elim
  | j + 1, l, x, c, r, i, n2, hi, b, r2, S, g, h, hl, h3 => by
    rcases h with ⟨rfl, rfl, h0, h4⟩ | ⟨h1, h0, l2, x2, c2, r3, S2, g2, h2, h5, h4⟩
    · rw [show 0 + 1 + i = i + 1 by omega]
      exact ⟨h0, n2, x, c, r, S, g, h4, hl, h3⟩
    · rw [show j + 1 + i = j + (i + 1) by omega]
      exact SF_appK h2 h5 ⟨h0, n2, x, c, r, S, g, h4, hl, h3⟩
end
end
section
set_option maxRecDepth 100000
section
variable {u w : MS} {a b n k d lo hi q r l o cl f : Nat}
theorem XP_bdK (f o cl : Nat) : BdE (XPcK u f o cl) := fun n lo hi a b q r h => by
  cases f with
  | zero => exact h.elim
  | succ f => exact h.1
theorem XP_kK : ∀ {f f2 o cl cl2 : Nat}, f ≤ f2 → cl ≤ cl2 → StE u w (XPcK u f o cl) (XPcK w f2 o cl2)
  | 0, _, _, _, _, _, _, _, _, _, _, _, _, _, h, _ => h.elim
  | f + 1, 0, _, _, _, h, _, _, _, _, _, _, _, _, _, _ => by omega
  | f + 1, f2 + 1, o, cl, cl2, hf, hcl, n, lo, hi, a, b, q, r, h, kn => by
    obtain ⟨h1, h2, h3, h4⟩ := h
    have hn := h1.1
    obtain ⟨g1, g2, g3, g4, g5⟩ := kn.g hn
    have hs : ∀ o cl, StE u w (XPcK u f o cl) (XPcK w f2 o cl) := fun o cl => XP_kK (by omega) (Nat.le_refl _)
    have hp : StE u w (PAcK u f) (PAcK w f2) := PA_kK (by omega)
    have so : ∀ {m lo hi a2 c q r o cl}, XPcK u f o cl m lo hi a2 c q r → a ≤ a2 → c < n → XPcK w f2 o cl m lo hi a2 c q r := fun {m lo hi a2 c q r o cl} h h1 h2 => hs o cl _ _ _ _ _ _ _ h (KNc.sub kn h1 (by omega) (Or.inr (Or.inl (by omega))))
    have e6 : ∀ t, A w 6 t = A u 6 t := fun t => kn.a6
    have e7 : ∀ t, A w 7 t = A u 7 t := fun t => kn.a7
    refine ⟨h1, TK_k h2 kn hn, h3, ?_⟩
    rw [g1]
    rcases h4 with ⟨h4, h5⟩ | ⟨h4, m, c, h5, h6, h7, hk⟩ | ⟨h4, h5, hk⟩ | ⟨h4, h5, hk⟩ | ⟨h4, k, m, c, h5, h6, h7, hk⟩ | ⟨h4, x, mid, c, s, k, m, c2, h5, h6, h7, h8, h9, hk⟩ | ⟨h4, k, m, c, h5, h6, h7, hk⟩ | ⟨h4, k, m, m1, c1, s1, h5, h6, h7⟩ | ⟨h4, k, m, ph, c, h5, h6, h7, h8, h9, h10, h11, h12, hk⟩ | h4 | ⟨h4, h5, k, m, a2, c, h6, h7, h8, h9, h10, h11, hk⟩ | ⟨h4, h5, x, mid, c, s, k, m, h6, h7, ⟨h8, hk⟩, h9, h10⟩ | ⟨h4, h5, m, c, h6, h7, h8, hk⟩ | ⟨h4, h5, m, c, h6, h7, h8, hk⟩ | ⟨h4, h5, x, y, mid, c, c2, h6, h7, h8, h9, h10, hk⟩ | ⟨h4, h5, x, y, mid, c, c2, s, h6, h7, h8, h9, h10, hk⟩ | ⟨h4, h5, j, m, c, h6, h7, h8⟩
    · exact Or.inl ⟨LF_k h4 kn hn, ⟨h5.1.1, by rw [e6, e6]; exact h5.1.2⟩, h5.2⟩
    · exact Or.inr (Or.inl ⟨h4, m, c, by rw [g3]; exact h5, so h6 (Nat.le_refl _) h7, h7, by rw [e6, e6, g2]; exact hk⟩)
    · exact Or.inr (Or.inr (Or.inl ⟨h4, TU_kK (hs _ _) (XP_bdK _ _ _) h5 kn hn, by rw [g2]; exact hk⟩))
    · exact Or.inr (Or.inr (Or.inr (Or.inl ⟨h4, TL_kK (hs _ _) (XP_bdK _ _ _) h5 kn hn, by rw [g2]; exact hk⟩)))
    · exact Or.inr (Or.inr (Or.inr (Or.inr (Or.inl ⟨h4, k, m, c, by rw [g3]; exact h5, RW_kK (hs _ _) (XP_bdK _ _ _) h6 (kn.in0 (Nat.le_refl _) h7 hn.2), h7, by rw [e6, e6, g2]; exact hk⟩))))
    · have b1 := (XP_bdK _ _ _ _ _ _ _ _ _ _ h6).1
      have b2 := (RW_hdK CSP_bdK h8).1.1
      exact Or.inr (Or.inr (Or.inr (Or.inr (Or.inr (Or.inl ⟨h4, x, mid, c, s, k, m, c2, by rw [g3]; exact h5, so h6 (Nat.le_refl _) (by omega), by rw [g4]; exact h7, RW_kK (CSP_kK hp (hs _ _) (hs _ _) (PA_bdK _) (XP_bdK _ _ _) (XP_bdK _ _ _)) CSP_bdK h8 (kn.in0 (by omega) h9 hn.2), h9, by rw [e6, e6, e6, g2]; exact hk⟩)))))
    · exact Or.inr (Or.inr (Or.inr (Or.inr (Or.inr (Or.inr (Or.inl ⟨h4, k, m, c, by rw [g4]; exact h5, RW_kK (CHP_kK (hs _ _) (hs _ _) (XP_bdK _ _ _) (XP_bdK _ _ _)) CHP_bdK h6 (kn.in0 (Nat.le_refl _) h7 hn.2), h7, by rw [e6, e6, g2]; exact hk⟩))))))
    · have b1 := OR_hdK CSP_bdK h6
      have b2 : c1 < n := by
        rcases h7 with ⟨-, -, -, -, -, h, -⟩ | ⟨x, m2, c2, s2, kb, mb, c3, -, -, h8, -, h9, h10, -⟩
        · exact h
        · have := (XP_bdK _ _ _ _ _ _ _ _ _ _ h8).1; have := (RW_hdK (XP_bdK _ _ _) h9).1.1; omega
      refine Or.inr (Or.inr (Or.inr (Or.inr (Or.inr (Or.inr (Or.inr (Or.inl ⟨h4, k, m, m1, c1, s1, by rw [g4]; exact h5, OR_kK (CSP_kK hp (hs _ _) (hs _ _) (PA_bdK _) (XP_bdK _ _ _) (XP_bdK _ _ _)) CSP_bdK h6 (kn.in0 (Nat.le_refl _) b2 hn.2), ?_⟩)))))))
      rw [g3, g5]
      rcases h7 with ⟨h7, h8, h9, h10, h11, h12, hk⟩ | ⟨x, m2, c2, s2, kb, mb, c3, h7, h8, h9, h10, h11, h12, hk⟩
      · exact Or.inl ⟨h7, h8, h9, h10, h11, h12, by rw [e6, e6, g2]; exact hk⟩
      · have b3 := (XP_bdK _ _ _ _ _ _ _ _ _ _ h9).1
        have b4 := (RW_hdK (XP_bdK _ _ _) h11).1.1
        exact Or.inr ⟨x, m2, c2, s2, kb, mb, c3, h7, h8, so h9 (by omega) (by omega), h10, RW_kK (hs _ _) (XP_bdK _ _ _) h11 (kn.in0 (by omega) h12 hn.2), h12, by rw [e6, e6, e6, e6, g2]; exact hk⟩
    · have b1 := h11.1
      refine Or.inr (Or.inr (Or.inr (Or.inr (Or.inr (Or.inr (Or.inr (Or.inr (Or.inl ⟨h4, k, m, ph, c, by rw [g2]; exact h5, by rw [g3]; exact h6, by rw [g4]; exact h7, by rw [g5]; exact h8, h9, h10, PRT_kK hp (hs _ _) (hs _ _) (PA_bdK _) (XP_bdK _ _ _) (XP_bdK _ _ _) h11 (KNc.sub kn (Nat.le_refl _) (by omega) (Or.inr (Or.inl (by omega)))), h12, by rw [e6, e6, e6, e6]; exact hk⟩))))))))
    · exact Or.inr (Or.inr (Or.inr (Or.inr (Or.inr (Or.inr (Or.inr (Or.inr (Or.inr (Or.inl ⟨h4.1, by rw [e6, e6, e6, e6, g2, g3, g4, e7, e7]; exact h4.2⟩)))))))))
    · exact Or.inr (Or.inr (Or.inr (Or.inr (Or.inr (Or.inr (Or.inr (Or.inr (Or.inr (Or.inr (Or.inl ⟨h4, by rw [g2]; exact h5, k, m, a2, c, by rw [g4]; exact h6, by rw [g5]; exact h7, h8, h9, OR_kK (hs _ _) (XP_bdK _ _ _) h10 (kn.in0 h9 h11 hn.2), h11, by rw [e6, e6, e6, g3, e7]; exact hk⟩))))))))))
    · exact Or.inr (Or.inr (Or.inr (Or.inr (Or.inr (Or.inr (Or.inr (Or.inr (Or.inr (Or.inr (Or.inr (Or.inl ⟨h4, by omega, x, mid, c, s, k, m, by rw [g3]; exact h6, so h7 (Nat.le_refl _) h8, ⟨h8, by rw [g2]; exact hk⟩, by rw [g4]; exact h9, RW_kK (AG_kK (hs _ _) (XP_bdK _ _ _)) AG_bdK h10 (KNc.sub kn (by omega) (Nat.le_refl _) (Or.inl (by omega)))⟩)))))))))))
    · exact Or.inr (Or.inr (Or.inr (Or.inr (Or.inr (Or.inr (Or.inr (Or.inr (Or.inr (Or.inr (Or.inr (Or.inr (Or.inl ⟨h4, by omega, m, c, by rw [g3]; exact h6, so h7 (Nat.le_refl _) h8, h8, by rw [e6]; exact hk⟩))))))))))))
    · exact Or.inr (Or.inr (Or.inr (Or.inr (Or.inr (Or.inr (Or.inr (Or.inr (Or.inr (Or.inr (Or.inr (Or.inr (Or.inr (Or.inl ⟨h4, by omega, m, c, by rw [g3]; exact h6, so h7 (Nat.le_refl _) h8, h8, by rw [e6]; exact hk⟩)))))))))))))
    · have b1 := (PA_bdK _ _ _ _ _ _ _ _ h7).1
      have b2 := (XP_bdK _ _ _ _ _ _ _ _ _ _ h9).1
      exact Or.inr (Or.inr (Or.inr (Or.inr (Or.inr (Or.inr (Or.inr (Or.inr (Or.inr (Or.inr (Or.inr (Or.inr (Or.inr (Or.inr (Or.inl ⟨h4, by omega, x, y, mid, c, c2, by rw [g3]; exact h6, hp _ _ _ _ _ _ _ h7 (KNc.sub kn (Nat.le_refl _) (by omega) (Or.inr (Or.inl (by omega)))), by rw [g4]; exact h8, so h9 (by omega) h10, h10, by rw [e6, e6]; exact hk⟩))))))))))))))
    · have b1 := (XP_bdK _ _ _ _ _ _ _ _ _ _ h7).1
      have b2 := (XP_bdK _ _ _ _ _ _ _ _ _ _ h9).1
      exact Or.inr (Or.inr (Or.inr (Or.inr (Or.inr (Or.inr (Or.inr (Or.inr (Or.inr (Or.inr (Or.inr (Or.inr (Or.inr (Or.inr (Or.inr (Or.inl ⟨h4, by omega, x, y, mid, c, c2, s, by rw [g3]; exact h6, so h7 (Nat.le_refl _) (by omega), by rw [g4]; exact h8, so h9 (by omega) h10, h10, by rw [e6, e6]; exact hk⟩)))))))))))))))
    · exact Or.inr (Or.inr (Or.inr (Or.inr (Or.inr (Or.inr (Or.inr (Or.inr (Or.inr (Or.inr (Or.inr (Or.inr (Or.inr (Or.inr (Or.inr (Or.inr ⟨h4, by omega, j, m, c, by rw [g3]; exact h6, SF_kK (hs _ _) (XP_bdK _ _ _) h7 (kn.in0 (Nat.le_refl _) h8.1 hn.2), h8⟩)))))))))))))))
end
end
section
set_option maxRecDepth 100000
section
variable {u v w : MS} {N c p n q o s k p2 n2 q2 m a b l lo hi r d most z : Nat}
theorem len_okK {E : Nat → Nat → Nat → Nat → Nat → Nat → Nat → Prop} (hb : BdE E) (hN : 10000 ≤ N) (hB : b ≤ 8015) (h : ORcK u d z E k m lo hi a b q r) : hm_Tr_length N u (I ((m : Nat) : Int)) = some (u, I ((k : Nat) : Int)) := by
  unfold hm_Tr_length hb_Tr_length_0
  have z0 : ∀ (M j : Nat), 1 ≤ M → hg_Tr_length N M u (I ((j : Nat) : Int)) (I 0) = some (u, I ((j : Nat) : Int)) := fun M j hM => by
    cases M with
    | zero => omega
    | succ M =>
      show hb_Tr_length_4 N (hg_Tr_length N M) u (I ((j : Nat) : Int)) (I 0) = _
      unfold hb_Tr_length_4
      rw [show decide (I 0 = (0 : Int32)) = true from by decide, br_tq]
  have gen : ∀ (k M j n lo a q : Nat), RWcK u d z E k n lo hi a b q r → b + 1 < M + a → j + b ≤ 100000 + a → hg_Tr_length N M u (I ((j : Nat) : Int)) (I ((n : Nat) : Int)) = some (u, I ((j + k : Nat) : Int)) := by
    intro k
    induction k with
    | zero => intro M j n lo a q h; exact h.elim
    | succ k ih =>
      intro M j n lo a q h hM hj
      obtain ⟨m2, c, s, e, h⟩ := h
      have g := hb _ _ _ _ _ _ _ e
      have hn := g.1
      have hcb : c ≤ b := by
        rcases h with ⟨-, -, -, h, -⟩ | ⟨-, n2, -, h3⟩
        · omega
        · have := (RW_hdK hb h3).1.1; omega
      cases M with
      | zero => omega
      | succ M =>
        show hb_Tr_length_4 N (hg_Tr_length N M) u (I ((j : Nat) : Int)) (I ((n : Nat) : Int)) = _
        unfold hb_Tr_length_4
        rw [decide_eq_false (show ¬ I ((n : Nat) : Int) = (0 : Int32) from fun y => by have := (I_eq (x := ((n : Nat) : Int)) (y := 0) (by omega) (by omega) (by decide) (by decide)).mp y; omega), br_fq, (I_inb (by omega) (by omega)).mpr ⟨by omega, by omega⟩, ck_t, tnI (n := n) rfl (by omega), I_A (k := 21), lit1q, I_add, show ((j : Nat) : Int) + 1 = ((j + 1 : Nat) : Int) by omega]
        rcases h with ⟨h1, h2, -⟩ | ⟨h1, n2, h2, h3⟩
        · rw [h2, z0 M (j + 1) (by omega), show j + 1 = j + (k + 1) by omega]
        · rw [h2, ih M (j + 1) n2 _ c s h3 (by omega) (by omega), show j + 1 + k = j + (k + 1) by omega]
  rw [lit0q, show (0 : Int) = ((0 : Nat) : Int) from rfl]
  rcases h with ⟨rfl, rfl, -⟩ | ⟨h1, h2⟩
  · exact z0 N 0 (by omega)
  · have e := gen k N 0 m lo a q h2 (by omega) (by omega)
    rw [Nat.zero_add] at e
    exact e
theorem row_okcK {S : SF_Pa_matched} {y : Int32} {Ew : MS → Nat → Nat → Nat → Nat → Nat → Nat → Nat → Prop} (hst : ∀ u w, StE u w (Ew u) (Ew w)) (hbd : ∀ u, BdE (Ew u)) (hmost : 1 ≤ most ∧ most ≤ 4000)
    (he : y = 0 → ∀ u c p n q s, PSI u c p n q o s → OK (fun w r => NDQ (fun w m lo hi a b q r => Ew w m lo hi a b q r ∧ A w 21 m = 0) u c p n q o s w r) (S.2.2.2.2.2.2.2.2.2.2.2.2.2.2.1 u 1))
    (hp : y ≠ 0 → ∀ u c p n q s, PSI u c p n q o s → OK (fun w r => NDQ (fun w m lo hi a b q r => Ew w m lo hi a b q r ∧ A w 21 m = 0) u c p n q o s w r) (S.2.2.2.2.2.2.2.2.2.2.2.2.2.2.2.2.2.1 u))
    (h : PSI u c p n q o s) (hN : 10000 ≤ N) : OK (fun w r => NDQ (fun w m lo hi a b q r => ∃ k, (1 ≤ k ∧ k ≤ most) ∧ RWcK w 1 26 (Ew w) k m lo hi a b q r) u c p n q o s w r) (hm_Pa_row N S u y (I ((most : Nat) : Int))) := by
  have hc := h.1.1
  have gen : ∀ (M k first l pp nn qq : Nat) (v : MS), KPG u v → OLDc u v n s → PSI v c pp nn qq o s → p ≤ pp → RPcK v 1 26 (Ew v) k first l p pp n nn q qq → A v 21 l = 0 → k ≤ most → 4001 < M + pp → OK (fun w r => NDQ (fun w m lo hi a b q r => ∃ k, (1 ≤ k ∧ k ≤ most) ∧ RWcK w 1 26 (Ew w) k m lo hi a b q r) u c p n q o s w r) (hg_Pa_row N S M v y (I ((most : Nat) : Int)) (I ((first : Nat) : Int)) (I ((l : Nat) : Int)) (I ((k : Nat) : Int))) := by
    intro M
    induction M with
    | zero =>
      intro k first l pp nn qq v _ _ hv
      have := hv.2.1.2
      omega
    | succ M ih =>
      intro k first l pp nn qq v g ol hv hpp rp h0 hk hM
      show OK _ (hb_Pa_row_23 N S (hg_Pa_row N S M) v y (I ((most : Nat) : Int)) (I ((first : Nat) : Int)) (I ((l : Nat) : Int)) (I ((k : Nat) : Int)))
      unfold hb_Pa_row_23 hb_Pa_row_78
      have rh := RP_hdK (hbd v) rp
      have hk1 : 1 ≤ k := by
        cases k with
        | zero => exact rp.elim
        | succ k => omega
      have done : NDQ (fun w m lo hi a b q r => ∃ k, (1 ≤ k ∧ k ≤ most) ∧ RWcK w 1 26 (Ew w) k m lo hi a b q r) u c p n q o s v (.inl (I ((first : Nat) : Int))) := ⟨g, first, pp, nn, qq, rfl, ol, hv, hpp, k, ⟨hk1, hk⟩, RW_ofK (hbd v) rp h0⟩
      refine k_le ⟨by omega, by omega⟩ ⟨by omega, by omega⟩ (fun _ => ok_some.mpr done) (fun hlt => look_T hv (fun w gw => ⟨g.tr gw, rfl⟩) (fun h45 => ?_))
      rw [show (26 : Int32) = I 26 from rfl]
      refine k_eq (A_r v 6 pp) ⟨by decide, by decide⟩ (fun e26 => ok_lt.mpr ?_) (fun _ => ok_some.mpr done)
      obtain ⟨hlt2, hv2⟩ := PSI_at hv ⟨by omega, by omega⟩
      rw [inc_e hv]
      have g2 : KPG v (wi v 665 ((pp + 1 : Nat) : Int)) := KPG_at
      have o2 : OLDc v (wi v 665 ((pp + 1 : Nat) : Int)) nn s := OLDc.row rfl
      generalize wi v 665 ((pp + 1 : Nat) : Int) = v2 at hv2 g2 o2
      have step : ∀ (x : Option (MS × (Int32 ⊕ Nat))), OK (fun w r => NDQ (fun w m lo hi a b q r => Ew w m lo hi a b q r ∧ A w 21 m = 0) v2 c (pp + 1) nn qq o s w r) x → OK (fun w r => NDQ (fun w m lo hi a b q r => ∃ k, (1 ≤ k ∧ k ≤ most) ∧ RWcK w 1 26 (Ew w) k m lo hi a b q r) u c p n q o s w r) (bTm x (fun u5 r5 => hb_Pa_row_67 N S (hg_Pa_row N S M) u5 y (I ((most : Nat) : Int)) (I ((first : Nat) : Int)) (I ((k : Nat) : Int)) (I ((l : Nat) : Int)) r5)) := fun x hx => ok_T (ok_mono hx (fun w r hw => by
        obtain ⟨gw, hw⟩ := hw
        cases r with
        | inr k => exact ⟨g.tr (g2.tr gw), hw⟩
        | inl x =>
          obtain ⟨m, p3, n3, q3, rfl, ol3, hv3, hp3, em, m0⟩ := hw
          show OK _ (hb_Pa_row_67 N S (hg_Pa_row N S M) w y (I ((most : Nat) : Int)) (I ((first : Nat) : Int)) (I ((k : Nat) : Int)) (I ((l : Nat) : Int)) (I ((m : Nat) : Int)))
          unfold hb_Pa_row_67
          have hm := hbd w _ _ _ _ _ _ _ em
          have hm1 := hm.1
          have n3b : n3 ≤ 8000 := by have := hv3.2.2.1.2; have := hv3.2.1.2; omega
          rw [chain_e (by omega), bnd_so, lit1q, I_add, show ((k : Nat) : Int) + 1 = ((k + 1 : Nat) : Int) by omega]
          have ov : OLDc v w nn s := OLDc.tr o2 ol3 (Nat.le_refl _)
          have gv : KPG v w := g2.tr gw
          have gw2 : KPG w (wa w 21 l ((m : Nat) : Int)) := FR.wa FR.rf (by simp)
          have a21 : ∀ k, k ≠ l → A (wa w 21 l ((m : Nat) : Int)) 21 k = A w 21 k := fun k hk => wa_ne hk
          have aO : ∀ r k, r ≠ 21 → A (wa w 21 l ((m : Nat) : Int)) r k = A w r k := fun r k hr => wa_rne hr
          have a21l : A (wa w 21 l ((m : Nat) : Int)) 21 l = ((m : Nat) : Int) := wa_eq ⟨by omega, by omega⟩
          have hv4 : PSI (wa w 21 l ((m : Nat) : Int)) c p3 n3 q3 o s := ⟨TKK_g gw2 hv3.1, hv3.2⟩
          have e6 : (wa w 21 l ((m : Nat) : Int)).2.2.1 6 = w.2.2.1 6 := gw2.2.2.1 6 (by simp)
          have e7 : (wa w 21 l ((m : Nat) : Int)).2.2.1 7 = w.2.2.1 7 := gw2.2.2.1 7 (by simp)
          generalize wa w 21 l ((m : Nat) : Int) = w5 at gw2 a21 aO a21l hv4 e6 e7
          have kv : KNc v w5 n nn l := ⟨⟨e6.trans (gv.2.2.1 6 (by simp)), e7.trans (gv.2.2.1 7 (by simp))⟩, fun k k1 k2 => by
            obtain ⟨b1, b2, b3, b4, b5, b6⟩ := ov.1 k k2
            exact ⟨⟨by rw [aO _ _ (by decide)]; exact b1, by rw [aO _ _ (by decide)]; exact b2, by rw [aO _ _ (by decide)]; exact b3, by rw [aO _ _ (by decide)]; exact b4, by rw [aO _ _ (by decide)]; exact b5⟩, fun k3 => by rw [a21 k k3]; exact b6⟩⟩
          have kw : KNc w w5 nn n3 m := ⟨⟨e6, e7⟩, fun k k1 k2 => ⟨⟨aO _ _ (by decide), aO _ _ (by decide), aO _ _ (by decide), aO _ _ (by decide), aO _ _ (by decide)⟩, fun k3 => a21 k (by omega)⟩⟩
          have rp5 := RP_kK (hst v w5) (hbd v) rp kv
          have em5 := hst w w5 _ _ _ _ _ _ _ em kw
          refine ih (k + 1) first m p3 n3 q3 w5 (g.tr (gv.tr gw2)) ?_ hv4 (by omega) (Or.inr ⟨hk1, l, pp, nn, qq, rp5, ⟨a21l, fun _ => (gv.tr gw2).a6.trans e26⟩, em5⟩) ?_ (by omega) (by omega)
          · have o6 := OLDc.tr ol ov (by omega)
            refine ⟨fun k hk => ?_, fun i hi => by rw [aO _ _ (by decide)]; exact o6.2 i hi⟩
            obtain ⟨b1, b2, b3, b4, b5, b6⟩ := o6.1 k hk
            exact ⟨by rw [aO _ _ (by decide)]; exact b1, by rw [aO _ _ (by decide)]; exact b2, by rw [aO _ _ (by decide)]; exact b3, by rw [aO _ _ (by decide)]; exact b4, by rw [aO _ _ (by decide)]; exact b5, by rw [a21 k (by omega)]; exact b6⟩
          · rw [a21 m (by have := hm.1; omega)]; exact m0))
      exact ok_br.mpr ⟨fun z => step _ (he (of_decide_eq_true z) v2 c (pp + 1) nn qq s hv2), fun z => step _ (hp (of_decide_eq_false z) v2 c (pp + 1) nn qq s hv2)⟩
  unfold hm_Pa_row hb_Pa_row_0 hb_Pa_row_16
  have step : ∀ (x : Option (MS × (Int32 ⊕ Nat))), OK (fun w r => NDQ (fun w m lo hi a b q r => Ew w m lo hi a b q r ∧ A w 21 m = 0) u c p n q o s w r) x → OK (fun w r => NDQ (fun w m lo hi a b q r => ∃ k, (1 ≤ k ∧ k ≤ most) ∧ RWcK w 1 26 (Ew w) k m lo hi a b q r) u c p n q o s w r) (bTm x (fun u7 r7 => hg_Pa_row N S N u7 y (I ((most : Nat) : Int)) r7 r7 1)) := fun x hx => ok_T (ok_mono hx (fun w r hw => by
    obtain ⟨gw, hw⟩ := hw
    cases r with
    | inr k => exact ⟨gw, hw⟩
    | inl x =>
      obtain ⟨m, p3, n3, q3, rfl, ol3, hv3, hp3, em, m0⟩ := hw
      show OK _ (hg_Pa_row N S N w y (I ((most : Nat) : Int)) (I ((m : Nat) : Int)) (I ((m : Nat) : Int)) (I ((1 : Nat) : Int)))
      exact gen N 1 m m p3 n3 q3 w gw ol3 hv3 hp3 (Or.inl ⟨rfl, rfl, em⟩) m0 hmost.1 (by omega)))
  exact ok_br.mpr ⟨fun z => step _ (he (of_decide_eq_true z) u c p n q s h), fun z => step _ (hp (of_decide_eq_false z) u c p n q s h)⟩
theorem rowUpTo_okcK {S : SF_Pa_matched} {y : Int32} {K : Int} {Ew : MS → Nat → Nat → Nat → Nat → Nat → Nat → Nat → Prop} (hst : ∀ u w, StE u w (Ew u) (Ew w)) (hbd : ∀ u, BdE (Ew u)) (hK : 1 ≤ K ∧ K ≤ 44)
    (hr : ∀ u c p n q s, PSI u c p n q o s → OK (fun w r => NDQ (fun w m lo hi a b q r => ∃ k, (1 ≤ k ∧ k ≤ most) ∧ RWcK w 1 26 (Ew w) k m lo hi a b q r) u c p n q o s w r) (S.2.2.2.2.2.2.2.2.2.2.2.2.2.2.2.2.2.2.1 u y (I ((most : Nat) : Int))))
    (h : PSI u c p n q o s) : OK (fun w r => NDQ (fun w m lo hi a b q r => (lo + 1 ≤ hi ∧ A w 6 (hi - 1) = K) ∧ ∃ k, k ≤ most ∧ ORcK w 1 26 (Ew w) k m lo (hi - 1) a b q r) u c p n q o s w r) (hm_Pa_rowUpTo N S u y (I ((most : Nat) : Int)) (I K)) := by
  unfold hm_Pa_rowUpTo hb_Pa_rowUpTo_0 hb_Pa_rowUpTo_18
  refine look_T h (fun w gw => ⟨gw, rfl⟩) (fun h45 => ?_)
  refine k_eq (A_r u 6 p) ⟨by omega, by omega⟩ (fun e => ?_) (fun _ => ?_)
  · refine need_T h hK (fun w gw => ⟨gw, rfl⟩) (fun _ h2 => ok_some.mpr ⟨KPG_at, 0, p + 1, n, q, rfl, OLDc.row rfl, h2, by omega, ⟨by omega, by rw [show p + 1 - 1 = p by omega]; exact e⟩, 0, by omega, Or.inl ⟨rfl, rfl, by omega, rfl, rfl⟩⟩)
  · refine ok_T (ok_mono (hr u c p n q s h) (fun w r hw => ?_))
    obtain ⟨gw, hw⟩ := hw
    cases r with
    | inr k => exact ⟨gw, hw⟩
    | inl x =>
      obtain ⟨m, p3, n3, q3, rfl, ol3, hv3, hp3, k, hk, em⟩ := hw
      refine need_T hv3 hK (fun w2 gw2 => ⟨gw.tr gw2, rfl⟩) (fun e3 h2 => ok_some.mpr ⟨gw.tr KPG_at, m, p3 + 1, n3, q3, rfl, OLDc.tr ol3 (OLDc.row rfl) (Nat.le_refl _), h2, by omega, ⟨by omega, by rw [show p3 + 1 - 1 = p3 by omega]; exact e3⟩, k, hk.2, Or.inr ⟨hk.1, ?_⟩⟩)
      rw [show p3 + 1 - 1 = p3 by omega]
      exact RW_kK (hst w _) (hbd w) em (KN_old KPG_at (OLDc.row (n := n3) (s := 0) rfl) (Nat.le_refl _))
end
end
section
set_option maxRecDepth 100000
section
variable {u v w : MS} {N c p n q o s p2 n2 q2 m a b l lo hi r d most f z : Nat}
def TUQK (Ew : MS → Nat → Nat → Nat → Nat → Nat → Nat → Nat → Prop) (w : MS) (m lo hi a b q r : Nat) : Prop := HDc m lo hi a b q r ∧ TKc w m lo hi ∧ A w 21 m = 0 ∧ A w 16 m = 6 ∧ TUcK w (Ew w) m lo hi a q r ∧ A w 17 m = ((lo : Nat) : Int)
def LIQK (Ew : MS → Nat → Nat → Nat → Nat → Nat → Nat → Nat → Prop) (w : MS) (m lo hi a b q r : Nat) : Prop := HDc m lo hi a b q r ∧ TKc w m lo hi ∧ A w 21 m = 0 ∧ A w 16 m = 7 ∧ TLcK w (Ew w) m lo hi a q r ∧ A w 17 m = ((lo : Nat) : Int)
theorem tuple_okcK {S : SF_Pa_matched} {y : Int32} {Ew : MS → Nat → Nat → Nat → Nat → Nat → Nat → Nat → Prop} (hst : ∀ u w, StE u w (Ew u) (Ew w)) (hbd : ∀ u, BdE (Ew u))
    (hr : ∀ u c p n q s, PSI u c p n q o s → OK (fun w r => NDQ (fun w m lo hi a b q r => (lo + 1 ≤ hi ∧ A w 6 (hi - 1) = 23) ∧ ∃ k, k ≤ 8 ∧ ORcK w 1 26 (Ew w) k m lo (hi - 1) a b q r) u c p n q o s w r) (S.2.2.2.2.2.2.2.2.2.2.2.2.2.2.2.2.2.2.2 u y (I ((8 : Nat) : Int)) (I 23)))
    (h : PSI u c p n q o s) (hk : A u 6 p = 22) (hN : 10000 ≤ N) : OK (fun w r => NDQ (TUQK Ew) u c p n q o s w r) (hm_Pa_tuple N S u y) := by
  have hc := h.1.1
  have h2p := h.2.2.1.2
  unfold hm_Pa_tuple hb_Pa_tuple_0
  obtain ⟨hpc, h2⟩ := PSI_at h (by omega)
  refine ok_lt.mpr ?_
  rw [inc_e h, show u.1 665 = I ((p : Nat) : Int) by rw [I_F (k := 665), h.2.1.1]]
  have g1 : KPG u (wi u 665 ((p + 1 : Nat) : Int)) := KPG_at
  have o1 : OLDc u (wi u 665 ((p + 1 : Nat) : Int)) n s := OLDc.row rfl
  generalize wi u 665 ((p + 1 : Nat) : Int) = v at h2 g1 o1
  refine ok_T (ok_mono (hr v c (p + 1) n q s h2) (fun w r hw => ?_))
  obtain ⟨gw, hw⟩ := hw
  cases r with
  | inr k => exact ⟨g1.tr gw, hw⟩
  | inl x =>
    obtain ⟨m, p3, n3, q3, rfl, ol3, hv3, hp3, hlo, k, hk8, em⟩ := hw
    have oh := OR_hdK (hbd w) em
    have n3b : n3 ≤ 8000 := by have := hv3.2.2.1.2; have := hv3.2.1.2; omega
    have p3c := hv3.2.1.2
    show OK _ (bnd (hm_Tr_length N w (I ((m : Nat) : Int))) _)
    have mb : m ≤ 8015 := by
      rcases em with ⟨-, h, -⟩ | ⟨-, h⟩
      · omega
      · have := (RW_hdK (hbd w) h).1.1; omega
    rw [len_okK (hbd w) hN (by omega) em, bnd_so, lit0q, show (6 : Int32) = I 6 from rfl]
    refine add_B hv3 (by omega) ⟨by decide, by decide⟩ ⟨by omega, by omega⟩ ⟨by omega, by omega⟩ ⟨by omega, by omega⟩ ⟨by decide, by decide⟩ (fun w2 g2 o2 h4 fa => ok_some.mpr ?_)
    obtain ⟨f1, f2, f3, f4, f5, f6⟩ := fa
    refine ⟨g1.tr (gw.tr g2), n3 + 1, p3, n3 + 1, q3, rfl, OLDc.tr (OLDc.tr o1 ol3 (Nat.le_refl _)) o2 (by omega), h4, by omega, ⟨⟨by omega, by omega⟩, by omega, by omega, by omega, by omega⟩, ⟨p, f2, Nat.le_refl _, by omega⟩, f6, f1, ⟨k, m, n3, f3, f4, ⟨hk8, (g1.tr (gw.tr g2)).a6.trans hk, g2.a6.trans hlo.2⟩, OR_kK (hst w w2) (hbd w) em (KN_old g2 o2 (Nat.le_refl _)), by omega⟩, f2⟩
theorem list_okcK {S : SF_Pa_matched} {y : Int32} {Ew : MS → Nat → Nat → Nat → Nat → Nat → Nat → Nat → Prop} (hst : ∀ u w, StE u w (Ew u) (Ew w)) (hbd : ∀ u, BdE (Ew u))
    (he : y = 0 → ∀ u c p n q s, PSI u c p n q o s → OK (fun w r => NDQ (fun w m lo hi a b q r => Ew w m lo hi a b q r ∧ A w 21 m = 0) u c p n q o s w r) (S.2.2.2.2.2.2.2.2.2.2.2.2.2.2.1 u 1))
    (hp : y ≠ 0 → ∀ u c p n q s, PSI u c p n q o s → OK (fun w r => NDQ (fun w m lo hi a b q r => Ew w m lo hi a b q r ∧ A w 21 m = 0) u c p n q o s w r) (S.2.2.2.2.2.2.2.2.2.2.2.2.2.2.2.2.2.1 u))
    (hr : ∀ u c p n q s, PSI u c p n q o s → OK (fun w r => NDQ (fun w m lo hi a b q r => ∃ k, (1 ≤ k ∧ k ≤ 8) ∧ RWcK w 1 26 (Ew w) k m lo hi a b q r) u c p n q o s w r) (S.2.2.2.2.2.2.2.2.2.2.2.2.2.2.2.2.2.2.1 u y (I ((8 : Nat) : Int))))
    (h : PSI u c p n q o s) (hk : A u 6 p = 24) (hN : 10000 ≤ N) : OK (fun w r => NDQ (LIQK Ew) u c p n q o s w r) (hm_Pa_list N S u y) := by
  have hc := h.1.1
  have h2p := h.2.2.1.2
  unfold hm_Pa_list hb_Pa_list_0
  obtain ⟨hpc, h2⟩ := PSI_at h (by omega)
  refine ok_lt.mpr ?_
  rw [inc_e h, show u.1 665 = I ((p : Nat) : Int) by rw [I_F (k := 665), h.2.1.1]]
  have g1 : KPG u (wi u 665 ((p + 1 : Nat) : Int)) := KPG_at
  have o1 : OLDc u (wi u 665 ((p + 1 : Nat) : Int)) n s := OLDc.row rfl
  generalize wi u 665 ((p + 1 : Nat) : Int) = v at h2 g1 o1
  have e80 : ∀ (w : MS) (m x k mid c1 s1 p3 n3 q3 : Nat), KPG u w → OLDc u w n s → PSI w c p3 n3 q3 o s → p + 1 ≤ p3 → k ≤ 8 → ORcK w 1 26 (Ew w) k m (p + 1) mid n c1 q s1 → ((x = 0 ∧ p3 = mid ∧ s1 = q3 ∧ c1 = n3) ∨ ((1 ≤ k ∧ A w 6 mid = 29) ∧ 1 ≤ x ∧ Ew w x (mid + 1) p3 c1 n3 s1 q3)) → OK (fun w r => NDQ (LIQK Ew) u c p n q o s w r) (hb_Pa_list_80 N S () w (I ((p : Nat) : Int)) (I ((m : Nat) : Int)) (I ((x : Nat) : Int))) := by
    intro w m x k mid c1 s1 p3 n3 q3 gw ow hw hp3 hk8 em hx
    unfold hb_Pa_list_80
    rw [show (25 : Int32) = I 25 from rfl]
    refine need_T hw (by omega) (fun w2 gw2 => ⟨gw.tr gw2, rfl⟩) (fun e25 h3 => ?_)
    have oh := OR_hdK (hbd w) em
    have n3b : n3 ≤ 8000 := by have := hw.2.2.1.2; have := hw.2.1.2; omega
    have p3c := h3.2.1.2
    have xb : x ≤ n3 ∧ c1 ≤ n3 ∧ mid ≤ p3 ∧ n3 + 2 * mid ≤ c1 + 2 * p3 ∧ s1 ≤ q3 ∧ 5 * q3 + mid ≤ 5 * s1 + p3 := by
      rcases hx with ⟨h1, h2, h3, h4⟩ | ⟨h1, h2, h3⟩
      · omega
      · have := hbd w _ _ _ _ _ _ _ h3
        unfold HDc at this
        omega
    have mb : m ≤ 8015 := by
      rcases em with ⟨-, h, -⟩ | ⟨-, h⟩
      · omega
      · have := (RW_hdK (hbd w) h).1.1; omega
    have g2 : KPG w (wi w 665 ((p3 + 1 : Nat) : Int)) := KPG_at
    have o2 : OLDc w (wi w 665 ((p3 + 1 : Nat) : Int)) n3 s := OLDc.row rfl
    generalize wi w 665 ((p3 + 1 : Nat) : Int) = w2 at h3 g2 o2
    have em2 := OR_kK (hst w w2) (hbd w) em (KN_old g2 o2 (by omega))
    rw [len_okK (hbd w2) hN (by omega) em2, bnd_so, show (7 : Int32) = I 7 from rfl]
    refine add_B h3 (by have := hw.2.2.1.2; omega) ⟨by decide, by decide⟩ ⟨by omega, by omega⟩ ⟨by omega, by omega⟩ ⟨by omega, by omega⟩ ⟨by omega, by omega⟩ (fun w4 g4 o4 h4 fa => ok_some.mpr ?_)
    obtain ⟨f1, f2, f3, f4, f5, f6⟩ := fa
    have kn : ∀ {a b l}, b ≤ n3 → KNc w w4 a b l := fun hb => KN_old (g2.tr g4) (OLDc.tr o2 o4 (Nat.le_refl _)) hb
    have hh : 1 ≤ k → mid < p3 + 1 := fun _ => by omega
    have hd : HDc (n3 + 1) p (p3 + 1) n (n3 + 1) q q3 := ⟨⟨by omega, by omega⟩, by omega, by omega, by omega, by omega⟩
    refine ⟨gw.tr (g2.tr g4), n3 + 1, p3 + 1, n3 + 1, q3, rfl, OLDc.tr ow (OLDc.tr o2 o4 (Nat.le_refl _)) (by omega), h4, by omega, hd, ⟨p, f2, Nat.le_refl _, by omega⟩, f6, f1, ⟨k, m, mid, c1, s1, f3, f4, ⟨hk8, (gw.tr (g2.tr g4)).a6.trans hk, by rw [show p3 + 1 - 1 = p3 by omega]; exact (g2.tr g4).a6.trans e25⟩, OR_kK (hst w w4) (hbd w) em (kn (by omega)), ?_⟩, f2⟩
    rcases hx with ⟨h1, h2, h3, h4⟩ | ⟨h1, h2, h3⟩
    · exact Or.inl ⟨by rw [f5, h1]; rfl, by omega, h3, by omega⟩
    · exact Or.inr ⟨⟨h1.1, (g2.tr g4).a6.trans h1.2⟩, x, n3, f5, by rw [show p3 + 1 - 1 = p3 by omega]; exact hst w w4 _ _ _ _ _ _ _ h3 (kn (Nat.le_refl _)), by omega⟩
  refine look_T h2 (fun w gw => ⟨g1.tr gw, rfl⟩) (fun h45 => ?_)
  rw [show (25 : Int32) = I 25 from rfl]
  refine k_eq (A_r v 6 (p + 1)) ⟨by decide, by decide⟩ (fun e => ?_) (fun _ => ?_)
  · unfold hb_Pa_list_35
    rw [show decide ((0 : Int32) = 0) = true from by decide, br_tq]
    exact e80 v 0 0 0 (p + 1) n q (p + 1) n q g1 o1 h2 (Nat.le_refl _) (by omega) (Or.inl ⟨rfl, rfl, rfl, rfl, rfl⟩) (Or.inl ⟨rfl, rfl, rfl, rfl⟩)
  · refine ok_T (ok_mono (hr v c (p + 1) n q s h2) (fun w r hw => ?_))
    obtain ⟨gw, hw⟩ := hw
    cases r with
    | inr k => exact ⟨g1.tr gw, hw⟩
    | inl x =>
      obtain ⟨m, p3, n3, q3, rfl, ol3, hv3, hp3, k, hk8, em⟩ := hw
      have rh := RW_hdK (hbd w) em
      have rh1 := rh.1.1
      have n3b : n3 ≤ 8000 := by have := hv3.2.2.1.2; have := hv3.2.1.2; omega
      show OK _ (hb_Pa_list_35 N S () w y (I ((p : Nat) : Int)) (I ((m : Nat) : Int)))
      unfold hb_Pa_list_35 hb_Pa_list_78
      rw [decide_eq_false (show ¬ I ((m : Nat) : Int) = (0 : Int32) from fun y => by have := (I_eq (x := ((m : Nat) : Int)) (y := 0) (by omega) (by omega) (by decide) (by decide)).mp y; omega), br_fq]
      have no : OK (fun w r => NDQ (LIQK Ew) u c p n q o s w r) (hb_Pa_list_80 N S () w (I ((p : Nat) : Int)) (I ((m : Nat) : Int)) (0 : Int32)) := e80 w m 0 k p3 n3 q3 p3 n3 q3 (g1.tr gw) (OLDc.tr o1 ol3 (Nat.le_refl _)) hv3 hp3 hk8.2 (Or.inr ⟨hk8.1, em⟩) (Or.inl ⟨rfl, rfl, rfl, rfl⟩)
      refine look_T hv3 (fun w2 gw2 => ⟨g1.tr (gw.tr gw2), rfl⟩) (fun h45 => ?_)
      rw [show (29 : Int32) = I 29 from rfl]
      refine k_eq (A_r w 6 p3) ⟨by decide, by decide⟩ (fun e29 => ok_lt.mpr ?_) (fun _ => no)
      obtain ⟨hlt2, h4⟩ := PSI_at hv3 ⟨by omega, by omega⟩
      rw [inc_e hv3]
      have g2 : KPG w (wi w 665 ((p3 + 1 : Nat) : Int)) := KPG_at
      have o2 : OLDc w (wi w 665 ((p3 + 1 : Nat) : Int)) n3 s := OLDc.row rfl
      generalize wi w 665 ((p3 + 1 : Nat) : Int) = w2 at h4 g2 o2
      have step : ∀ (x : Option (MS × (Int32 ⊕ Nat))), OK (fun w r => NDQ (fun w m lo hi a b q r => Ew w m lo hi a b q r ∧ A w 21 m = 0) w2 c (p3 + 1) n3 q3 o s w r) x → OK (fun w r => NDQ (LIQK Ew) u c p n q o s w r) (bTm x (fun u11 r11 => hb_Pa_list_80 N S () u11 (I ((p : Nat) : Int)) (I ((m : Nat) : Int)) r11)) := fun x hx => ok_T (ok_mono hx (fun w5 r5 hw5 => by
        obtain ⟨gw5, hw5⟩ := hw5
        cases r5 with
        | inr k => exact ⟨g1.tr (gw.tr (g2.tr gw5)), hw5⟩
        | inl x =>
          obtain ⟨m5, p5, n5, q5, rfl, ol5, hv5, hp5, em5, -⟩ := hw5
          have hd5 := hbd w5 _ _ _ _ _ _ _ em5
          have := hd5.1
          exact e80 w5 m m5 k p3 n3 q3 p5 n5 q5 (g1.tr (gw.tr (g2.tr gw5))) (OLDc.tr (OLDc.tr o1 ol3 (Nat.le_refl _)) (OLDc.tr o2 ol5 (Nat.le_refl _)) (by omega)) hv5 (by omega) hk8.2 (Or.inr ⟨hk8.1, RW_kK (hst w w5) (hbd w) em (KN_old (g2.tr gw5) (OLDc.tr o2 ol5 (Nat.le_refl _)) (Nat.le_refl _))⟩) (Or.inr ⟨⟨hk8.1, (g2.tr gw5).a6.trans e29⟩, by omega, em5⟩)))
      exact ok_br.mpr ⟨fun z => step _ (he (of_decide_eq_true z) w2 c (p3 + 1) n3 q3 s h4), fun z => step _ (hp (of_decide_eq_false z) w2 c (p3 + 1) n3 q3 s h4)⟩
theorem PAqK (h : PAcK u f m lo hi a b q r) : q = r := by
  cases f with
  | zero => exact h.elim
  | succ f => exact h.2.2.1
theorem RWqK {E : Nat → Nat → Nat → Nat → Nat → Nat → Nat → Prop} (he : ∀ n lo hi a b q r, E n lo hi a b q r → q = r) : ∀ {k n lo hi a b q r : Nat}, RWcK u d z E k n lo hi a b q r → q = r
  | 0, _, _, _, _, _, _, _, h => h.elim
  | k + 1, n, lo, hi, a, b, q, r, h => by
    obtain ⟨m, c, s, e, h | ⟨h1, n2, h2, h3⟩⟩ := h
    · have := he _ _ _ _ _ _ _ e; omega
    · have := he _ _ _ _ _ _ _ e; have := RWqK he h3; omega
theorem ORqK {k : Nat} {E : Nat → Nat → Nat → Nat → Nat → Nat → Nat → Prop} (he : ∀ n lo hi a b q r, E n lo hi a b q r → q = r) (h : ORcK u d z E k n lo hi a b q r) : q = r := by
  rcases h with h | ⟨-, h⟩
  · omega
  · exact RWqK he h
theorem TUqK (h : TUcK u (PAcK u f) m lo hi a q r) : q = r := by
  obtain ⟨k, m, c, h1, h2, h3, h4, h5⟩ := h
  exact ORqK (fun _ _ _ _ _ _ _ h => PAqK h) h4
theorem TLqK (h : TLcK u (PAcK u f) m lo hi a q r) : q = r := by
  obtain ⟨k, m, mid, c, s, h1, h2, h3, h4, h5⟩ := h
  have e := ORqK (fun _ _ _ _ _ _ _ h => PAqK h) h4
  rcases h5 with ⟨-, -, h5, -⟩ | ⟨-, x, c2, -, h5, -⟩
  · omega
  · have := PAqK h5; omega
theorem pattern_okcK {S : SF_Pa_matched} (ho : o ≤ 25)
    (hp : o < 25 → ∀ u c p n q s, PSI u c p n q (o + 1) s → OK (fun w r => NDQ (fun w m lo hi a b q r => PAcK w (25 - o) m lo hi a b q r ∧ A w 21 m = 0) u c p n q (o + 1) s w r) (S.2.2.2.2.2.2.2.2.2.2.2.2.2.2.2.2.2.1 u))
    (ht : o < 25 → ∀ u c p n q s, PSI u c p n q (o + 1) s → A u 6 p = 22 → OK (fun w r => NDQ (TUQK (fun w => PAcK w (25 - o))) u c p n q (o + 1) s w r) (S.2.2.2.2.2.2.2.2.2.2.2.2.2.2.2.2.1 u 1))
    (hl : o < 25 → ∀ u c p n q s, PSI u c p n q (o + 1) s → A u 6 p = 24 → OK (fun w r => NDQ (LIQK (fun w => PAcK w (25 - o))) u c p n q (o + 1) s w r) (S.2.2.2.2.2.2.2.2.2.2.2.2.2.2.2.1 u 1))
    (h : PSI u c p n q o s) (hN : 10000 ≤ N) : OK (fun w r => NDQ (fun w m lo hi a b q r => PAcK w (26 - o) m lo hi a b q r ∧ A w 21 m = 0) u c p n q o s w r) (hm_Pa_pattern N S u) := by
  have hc := h.1.1
  have h2p := h.2.2.1.2
  have tr := tk_rng h.1 h.2.1.2
  unfold hm_Pa_pattern hb_Pa_pattern_0
  refine look_T h (fun w gw => ⟨gw, rfl⟩) (fun h45 => ?_)
  obtain ⟨r9, e9, hr9⟩ := begP (N := N) (u := u) tr
  rw [e9, bnd_so]
  refine opens_T h (fun w gw => ⟨gw, rfl⟩) (fun hx ho25 h2 => ?_)
  have hkind := hr9 hx
  have g1 : KPG u (wi u 666 ((o + 1 : Nat) : Int)) := KPG_op
  have o1 : OLDc u (wi u 666 ((o + 1 : Nat) : Int)) n s := OLDc.row rfl
  have a6 : A (wi u 666 ((o + 1 : Nat) : Int)) 6 p = A u 6 p := rfl
  rw [show u.1 665 = I ((p : Nat) : Int) by rw [I_F (k := 665), h.2.1.1]]
  generalize wi u 666 ((o + 1 : Nat) : Int) = v at h2 g1 o1 a6
  have fe : 26 - o = (25 - o) + 1 := by omega
  have fin : ∀ (w : MS) (m p3 n3 q3 : Nat), KPG u w → OLDc u w n s → PSI w c p3 n3 q3 (o + 1) s → p ≤ p3 → PAcK w (26 - o) m p p3 n n3 q q3 → A w 21 m = 0 → OK (fun w r => NDQ (fun w m lo hi a b q r => PAcK w (26 - o) m lo hi a b q r ∧ A w 21 m = 0) u c p n q o s w r) (hb_Pa_pattern_162 N S () w (I ((m : Nat) : Int))) := by
    intro w m p3 n3 q3 gw ow hw hp3 em m0
    obtain ⟨e, hw2⟩ := close_e hw
    unfold hb_Pa_pattern_162
    refine ok_lt.mpr (ok_some.mpr ?_)
    rw [e]
    exact ⟨gw.tr KPG_op, m, p3, n3, q3, rfl, OLDc.tr ow (OLDc.row rfl) (Nat.le_refl _), hw2, hp3, PA_kK (Nat.le_refl _) _ _ _ _ _ _ _ em (KN_old KPG_op (OLDc.row (n := n3) (s := 0) rfl) (Nat.le_refl _)), m0⟩
  rw [show (20 : Int32) = I 20 from rfl, show (22 : Int32) = I 22 from rfl, show (24 : Int32) = I 24 from rfl, show (34 : Int32) = I 34 from rfl]
  refine k_eq (A_r u 6 p) ⟨by decide, by decide⟩ (fun e => ok_lt.mpr ?_) (fun n20 => k_eq (A_r u 6 p) ⟨by decide, by decide⟩ (fun e => ?_) (fun n22 => k_eq (A_r u 6 p) ⟨by decide, by decide⟩ (fun e => ?_) (fun n24 => k_eq (A_r u 6 p) ⟨by decide, by decide⟩ (fun e => ok_lt.mpr ?_) (fun n34 => ?_))))
  · obtain ⟨hlt2, h3⟩ := PSI_at h2 (by rw [a6]; omega)
    rw [inc_e h2]
    have g2 : KPG v (wi v 665 ((p + 1 : Nat) : Int)) := KPG_at
    have o2 : OLDc v (wi v 665 ((p + 1 : Nat) : Int)) n s := OLDc.row rfl
    generalize wi v 665 ((p + 1 : Nat) : Int) = v2 at h3 g2 o2
    refine ok_T (ok_mono (hp ho25 v2 c (p + 1) n q s h3) (fun w r hw => ?_))
    obtain ⟨gw, hw⟩ := hw
    cases r with
    | inr k => exact ⟨g1.tr (g2.tr gw), hw⟩
    | inl x =>
      obtain ⟨m, p3, n3, q3, rfl, ol3, hv3, hp3, em, -⟩ := hw
      have hd := PA_bdK _ _ _ _ _ _ _ _ em
      unfold HDc at hd
      have n3b : n3 ≤ 8000 := by have := hv3.2.2.1.2; have := hv3.2.1.2; omega
      have p3c := hv3.2.1.2
      rw [lit0q, show (5 : Int32) = I 5 from rfl]
      refine add_B hv3 (by omega) ⟨by decide, by decide⟩ ⟨by omega, by omega⟩ ⟨by omega, by omega⟩ ⟨by decide, by decide⟩ ⟨by decide, by decide⟩ (fun w4 g4 o4 h4 fa => ?_)
      obtain ⟨f1, f2, f3, f4, f5, f6⟩ := fa
      rw [show (21 : Int32) = I 21 from rfl]
      refine need_T h4 (by omega) (fun w2 gw2 => ⟨g1.tr (g2.tr (gw.tr (g4.tr gw2))), rfl⟩) (fun e21 h5 => ?_)
      have g5 : KPG w4 (wi w4 665 ((p3 + 1 : Nat) : Int)) := KPG_at
      have o5 : OLDc w4 (wi w4 665 ((p3 + 1 : Nat) : Int)) (n3 + 1) s := OLDc.row rfl
      have p5c := h5.2.1.2
      refine fin _ (n3 + 1) (p3 + 1) (n3 + 1) q3 (g1.tr (g2.tr (gw.tr (g4.tr g5)))) (OLDc.tr (OLDc.tr (OLDc.tr o1 o2 (Nat.le_refl _)) ol3 (Nat.le_refl _)) (OLDc.tr o4 o5 (by omega)) (by omega)) h5 (by omega) ?_ f6
      rw [fe]
      refine ⟨⟨⟨by omega, by omega⟩, by omega, by omega, by omega, by omega⟩, ⟨p, f2, Nat.le_refl _, by omega⟩, ?_, Or.inr (Or.inr (Or.inl ⟨f1, m, n3, f3, ?_, by omega, (g1.tr (g2.tr (gw.tr (g4.tr g5)))).a6.trans e, by rw [show p3 + 1 - 1 = p3 by omega]; exact g5.a6.trans e21⟩))⟩
      · have := PAqK em; exact this
      · rw [show p3 + 1 - 1 = p3 by omega]
        exact PA_kK (Nat.le_refl _) _ _ _ _ _ _ _ em (KN_old (g4.tr g5) (OLDc.tr o4 o5 (by omega)) (Nat.le_refl _))
  · refine ok_T (ok_mono (ht ho25 v c p n q s h2 (by rw [a6]; omega)) (fun w r hw => ?_))
    obtain ⟨gw, hw⟩ := hw
    cases r with
    | inr k => exact ⟨g1.tr gw, hw⟩
    | inl x =>
      obtain ⟨m, p3, n3, q3, rfl, ol3, hv3, hp3, t1, t2, t3, t4, t5, -⟩ := hw
      refine fin w m p3 n3 q3 (g1.tr gw) (OLDc.tr o1 ol3 (Nat.le_refl _)) hv3 hp3 ?_ t3
      rw [fe]
      exact ⟨t1, t2, TUqK t5, Or.inr (Or.inr (Or.inr (Or.inl ⟨t4, t5⟩)))⟩
  · refine ok_T (ok_mono (hl ho25 v c p n q s h2 (by rw [a6]; omega)) (fun w r hw => ?_))
    obtain ⟨gw, hw⟩ := hw
    cases r with
    | inr k => exact ⟨g1.tr gw, hw⟩
    | inl x =>
      obtain ⟨m, p3, n3, q3, rfl, ol3, hv3, hp3, t1, t2, t3, t4, t5, -⟩ := hw
      refine fin w m p3 n3 q3 (g1.tr gw) (OLDc.tr o1 ol3 (Nat.le_refl _)) hv3 hp3 ?_ t3
      rw [fe]
      exact ⟨t1, t2, TLqK t5, Or.inr (Or.inr (Or.inr (Or.inr ⟨t4, t5⟩)))⟩
  · obtain ⟨hlt2, h3⟩ := PSI_at h2 (by rw [a6]; omega)
    rw [inc_e h2]
    have g2 : KPG v (wi v 665 ((p + 1 : Nat) : Int)) := KPG_at
    have o2 : OLDc v (wi v 665 ((p + 1 : Nat) : Int)) n s := OLDc.row rfl
    generalize wi v 665 ((p + 1 : Nat) : Int) = v2 at h3 g2 o2
    refine look_T h3 (fun w gw => ⟨g1.tr (g2.tr gw), rfl⟩) (fun _ => ?_)
    rw [show (1 : Int32) = I 1 from rfl]
    refine k_eq (A_r v2 6 (p + 1)) ⟨by decide, by decide⟩ (fun e1 => ?_) (fun _ => refuse_T h3 (fun w gw => ⟨g1.tr (g2.tr gw), rfl⟩))
    unfold hb_Pa_pattern_137
    refine leaf_B h3 (by omega) (fun w gw ow hw lf m0 a61 => ?_)
    have p3c := hw.2.1.2
    have n3b := hw.2.2.1.2
    rw [lit0q, show (17 : Int32) = I 17 from rfl]
    refine add_B hw (by have := h.2.2.1.2; omega) ⟨by decide, by decide⟩ ⟨by omega, by omega⟩ ⟨by omega, by omega⟩ ⟨by decide, by decide⟩ ⟨by decide, by decide⟩ (fun w4 g4 o4 h4 fa => ?_)
    obtain ⟨f1, f2, f3, f4, f5, f6⟩ := fa
    have kn : KNc w w4 n (n + 1) 0 := KN_old g4 o4 (Nat.le_refl _)
    refine fin w4 (n + 1 + 1) (p + 1 + 1) (n + 1 + 1) q (g1.tr (g2.tr (gw.tr g4))) (OLDc.tr (OLDc.tr (OLDc.tr o1 o2 (Nat.le_refl _)) ow (Nat.le_refl _)) o4 (by omega)) h4 (by omega) ?_ f6
    rw [fe]
    exact ⟨⟨⟨by omega, by omega⟩, by omega, by omega, by omega, by omega⟩, ⟨p, f2, Nat.le_refl _, by omega⟩, rfl, Or.inr (Or.inl ⟨f1, n + 1, f3, ⟨by omega, by omega, by omega⟩, LF_k lf kn ⟨by omega, by omega⟩, by rw [g4.a6, a61]; exact e1, by omega, (g1.tr (g2.tr (gw.tr g4))).a6.trans e⟩)⟩
  · refine leaf_B h2 (by rw [a6]; omega) (fun w gw ow hw lf m0 a61 => ?_)
    have p3c := hw.2.1.2
    refine fin w (n + 1) (p + 1) (n + 1) q (g1.tr gw) (OLDc.tr o1 ow (Nat.le_refl _)) hw (by omega) ?_ m0
    rw [fe]
    exact ⟨⟨⟨by omega, by omega⟩, by omega, by omega, by omega, by omega⟩, ⟨p, lf.2.2.1, Nat.le_refl _, by omega⟩, rfl, Or.inl ⟨lf, rfl⟩⟩
end
end
section
set_option maxRecDepth 100000
def PwK (o : Nat) (w : MS) : Nat → Nat → Nat → Nat → Nat → Nat → Nat → Prop := PAcK w (26 - o)
def GwK (o : Nat) (w : MS) : Nat → Nat → Nat → Nat → Nat → Nat → Nat → Prop := XPcK w (4 * (25 - o) + 3) (o + 1) 3
def BwK (o : Nat) (w : MS) : Nat → Nat → Nat → Nat → Nat → Nat → Nat → Prop := XPcK w (4 * (24 - o) + 3) (o + 2) 3
section
variable {u v w : MS} {N c p n q o s p2 n2 q2 m a b l lo hi r d most f t pl ph z : Nat}
theorem Pw_stK (u w : MS) : StE u w (PwK o u) (PwK o w) := PA_kK (Nat.le_refl _)
theorem Gw_stK (u w : MS) : StE u w (GwK o u) (GwK o w) := XP_kK (Nat.le_refl _) (Nat.le_refl _)
theorem Bw_stK (u w : MS) : StE u w (BwK o u) (BwK o w) := XP_kK (Nat.le_refl _) (Nat.le_refl _)
theorem Pw_bdK (u : MS) : BdE (PwK o u) := PA_bdK _
theorem Gw_bdK (u : MS) : BdE (GwK o u) := XP_bdK _ _ _
theorem Bw_bdK (u : MS) : BdE (BwK o u) := XP_bdK _ _ _
theorem body_okcK {S : SF_Pa_matched}
    (hr : o < 25 → ∀ u c p n q s, PSI u c p n q (o + 1) s → OK (fun w r => NDQ (fun w m lo hi a b q r => ∃ k, (1 ≤ k ∧ k ≤ 4000) ∧ RWcK w 1 26 (BwK o w) k m lo hi a b q r) u c p n q (o + 1) s w r) (S.2.2.2.2.2.2.2.2.2.2.2.2.2.2.2.2.2.2.1 u 0 (I ((4000 : Nat) : Int))))
    (h : PSI u c p n q o s) : OK (fun w r => NDQ (fun w m lo hi a b q r => ∃ k, RWcK w 1 26 (BwK o w) k m lo hi a b q r) u c p n q o s w r) (hm_Pa_body N S u) := by
  have e25 : ∀ t1, OK (fun w r => NDQ (fun w m lo hi a b q r => ∃ k, RWcK w 1 26 (BwK o w) k m lo hi a b q r) u c p n q o s w r) (hb_Pa_body_25 N S () u t1) := fun t1 => by
    unfold hb_Pa_body_25
    refine opens_T h (fun w gw => ⟨gw, rfl⟩) (fun _ ho h2 => ?_)
    refine ok_T (ok_mono (hr ho _ c p n q s h2) (fun w r hw => ?_))
    obtain ⟨gw, hw⟩ := hw
    cases r with
    | inr k => exact ⟨KPG_op.tr gw, hw⟩
    | inl x =>
      obtain ⟨m, p3, n3, q3, rfl, ol3, hv3, hp3, k, hk, em⟩ := hw
      obtain ⟨e, hw2⟩ := close_e hv3
      refine ok_lt.mpr (ok_some.mpr ?_)
      rw [e]
      exact ⟨KPG_op.tr (gw.tr KPG_op), m, p3, n3, q3, rfl, OLDc.tr (OLDc.row rfl) (OLDc.tr ol3 (OLDc.row rfl) (Nat.le_refl _)) (Nat.le_refl _), hw2, hp3, k, RW_kK (Bw_stK w _) (Bw_bdK w) em (KN_old KPG_op (OLDc.row (n := n3) (s := 0) rfl) (Nat.le_refl _))⟩
  unfold hm_Pa_body hb_Pa_body_0 hb_Pa_body_20
  refine look_T h (fun w gw => ⟨gw, rfl⟩) (fun h45 => ?_)
  obtain ⟨r6, e6⟩ := begU (N := N) (u := u) (tk_rng h.1 h.2.1.2)
  rw [e6, bnd_so]
  exact ok_br.mpr ⟨fun _ => look_T h (fun w gw => ⟨gw, rfl⟩) (fun _ => ok_br.mpr ⟨fun _ => e25 _, fun _ => e25 _⟩), fun _ => e25 _⟩
theorem part_okcK {S : SF_Pa_matched} {k m0 : Nat}
    (hr : ∀ u c p n q s, PSI u c p n q o s → OK (fun w r => NDQ (fun w m lo hi a b q r => ∃ k, (1 ≤ k ∧ k ≤ 4000) ∧ RWcK w 1 26 (GwK o w) k m lo hi a b q r) u c p n q o s w r) (S.2.2.2.2.2.2.2.2.2.2.2.2.2.2.2.2.2.2.1 u 0 (I ((4000 : Nat) : Int))))
    (hb : ∀ u c p n q s, PSI u c p n q o s → OK (fun w r => NDQ (fun w m lo hi a b q r => ∃ k, RWcK w 1 26 (BwK o w) k m lo hi a b q r) u c p n q o s w r) (S.2.2.2.2.2.2.2.2.2.1 u))
    (h : PSI u c p n q o s) (ht : t < p) (hpl : pl ≤ ph ∧ ph ≤ p) (em0 : ORcK u 1 26 (PwK o u) k m0 pl ph a n q q) : OK (fun w r => NDQ (fun w m lo hi a1 b q r => PRTcK w (PwK o w) (BwK o w) (GwK o w) k m pl ph lo hi a b q r ∧ (a1 < m ∧ m = b) ∧ lo + 2 ≤ hi ∧ b + 1 + 2 * lo ≤ a1 + 2 * hi ∧ q ≤ r ∧ 5 * r + lo + 2 ≤ 5 * q + hi ∧ A w 21 m = 0 ∧ A w 17 m = ((t : Nat) : Int)) u c p n q o s w r) (hm_Pa_part N S u (I ((t : Nat) : Int)) (I ((m0 : Nat) : Int))) := by
  have hc := h.1.1
  have h2p := h.2.2.1.2
  have hpc := h.2.1.2
  have oh0 := OR_hdK (Pw_bdK u) em0
  have m0b : m0 ≤ n := by
    rcases em0 with ⟨-, h, -⟩ | ⟨-, h⟩
    · omega
    · have := (RW_hdK (Pw_bdK u) h).1.1; omega
  have e30 : ∀ (w : MS) (g p3 n3 q3 : Nat), KPG u w → OLDc u w n s → PSI w c p3 n3 q3 o s → p ≤ p3 → ((g = 0 ∧ p3 = p ∧ n3 = n ∧ q3 = q) ∨ ((1 ≤ g ∧ A w 6 p = 19) ∧ (n < g ∧ g ≤ n3) ∧ (p + 1 < p3 ∧ n3 + 1 + 2 * (p + 1) ≤ n + 2 * p3 ∧ q ≤ q3 ∧ 5 * q3 + (p + 1) + 1 ≤ 5 * q + p3) ∧ ∃ kg, RWcK w 1 26 (GwK o w) kg g (p + 1) p3 n n3 q q3)) → OK (fun w r => NDQ (fun w m lo hi a1 b q r => PRTcK w (PwK o w) (BwK o w) (GwK o w) k m pl ph lo hi a b q r ∧ (a1 < m ∧ m = b) ∧ lo + 2 ≤ hi ∧ b + 1 + 2 * lo ≤ a1 + 2 * hi ∧ q ≤ r ∧ 5 * r + lo + 2 ≤ 5 * q + hi ∧ A w 21 m = 0 ∧ A w 17 m = ((t : Nat) : Int)) u c p n q o s w r) (hb_Pa_part_30 N S () w (I ((t : Nat) : Int)) (I ((m0 : Nat) : Int)) (I ((g : Nat) : Int))) := by
    intro w g p3 n3 q3 gw ow hw hp3 hg
    unfold hb_Pa_part_30
    rw [show (38 : Int32) = I 38 from rfl]
    refine need_T hw (by omega) (fun w2 gw2 => ⟨gw.tr gw2, rfl⟩) (fun e38 h3 => ?_)
    have g1 : KPG w (wi w 665 ((p3 + 1 : Nat) : Int)) := KPG_at
    have o1 : OLDc w (wi w 665 ((p3 + 1 : Nat) : Int)) n3 s := OLDc.row rfl
    generalize wi w 665 ((p3 + 1 : Nat) : Int) = w1 at h3 g1 o1
    refine ok_T (ok_mono (hb w1 c (p3 + 1) n3 q3 s h3) (fun w2 r hw2 => ?_))
    obtain ⟨g2, hw2⟩ := hw2
    cases r with
    | inr k => exact ⟨gw.tr (g1.tr g2), hw2⟩
    | inl x =>
      obtain ⟨mb, p4, n4, q4, rfl, ol4, hv4, hp4, kb, em⟩ := hw2
      have rh := (RW_hdK (Bw_bdK w2) em).1
      unfold HDc at rh
      have n4b : n4 ≤ 8000 := by have := hv4.2.2.1.2; have := hv4.2.1.2; omega
      have p4c := hv4.2.1.2
      have gb : g ≤ 8000 := by
        rcases hg with hg | hg
        · omega
        · have := hg.2.1; omega
      rw [show (25 : Int32) = I 25 from rfl]
      have cnt : n4 + 1 + 1 + 2 * p ≤ n + 2 * p4 ∧ n ≤ n3 ∧ q ≤ q4 ∧ 5 * q4 + p + 2 ≤ 5 * q + p4 ∧ p + 2 ≤ p4 := by
        rcases hg with hg | ⟨-, hx, hg, -⟩ <;> omega
      refine add_B hv4 (by omega) ⟨by decide, by decide⟩ ⟨by omega, by omega⟩ ⟨by omega, by omega⟩ ⟨by omega, by omega⟩ ⟨by omega, by omega⟩ (fun w5 g5 o5 h5 fa => ok_some.mpr ?_)
      obtain ⟨f1, f2, f3, f4, f5, f6⟩ := fa
      have ow5 : OLDc w w5 n3 s := OLDc.tr o1 (OLDc.tr ol4 o5 (by omega)) (Nat.le_refl _)
      have gw5 : KPG w w5 := g1.tr (g2.tr g5)
      have ou5 : OLDc u w5 n s := OLDc.tr ow ow5 cnt.2.1
      refine ⟨gw.tr gw5, n4 + 1, p4, n4 + 1, q4, rfl, ou5, h5, by omega, ⟨⟨by omega, by omega⟩, f1, ⟨t, f2, by omega, by omega⟩, m0, n, g, p3, n3, q3, kb, mb, n4, ⟨f3, OR_kK (Pw_stK u w5) (Pw_bdK u) em0 (KN_old (gw.tr gw5) ou5 (Nat.le_refl _))⟩, ⟨f4, ?_⟩, ⟨f5, RW_kK (Bw_stK w2 w5) (Bw_bdK w2) em (KN_old g5 o5 (Nat.le_refl _))⟩, by omega, gw5.a6.trans e38⟩, ⟨by omega, rfl⟩, by omega, by omega, by omega, by omega, f6, f2⟩
      rcases hg with ⟨h1, h2, h3, h4⟩ | ⟨h1, -, -, kg, h2⟩
      · exact Or.inl ⟨h1, h2, h3, h4⟩
      · exact Or.inr ⟨⟨h1.1, gw5.a6.trans h1.2⟩, kg, RW_kK (Gw_stK w w5) (Gw_bdK w) h2 (KN_old gw5 ow5 (Nat.le_refl _))⟩
  unfold hm_Pa_part hb_Pa_part_0
  refine look_T h (fun w gw => ⟨gw, rfl⟩) (fun h45 => ?_)
  rw [show (19 : Int32) = I 19 from rfl]
  refine k_eq (A_r u 6 p) ⟨by decide, by decide⟩ (fun e => ok_lt.mpr ?_) (fun _ => e30 u 0 p n q KPG.rf OLDc.rf h (Nat.le_refl _) (Or.inl ⟨rfl, rfl, rfl, rfl⟩))
  obtain ⟨hlt2, h3⟩ := PSI_at h (by omega)
  rw [inc_e h]
  have g1 : KPG u (wi u 665 ((p + 1 : Nat) : Int)) := KPG_at
  have o1 : OLDc u (wi u 665 ((p + 1 : Nat) : Int)) n s := OLDc.row rfl
  generalize wi u 665 ((p + 1 : Nat) : Int) = w1 at h3 g1 o1
  refine ok_T (ok_mono (hr w1 c (p + 1) n q s h3) (fun w2 r hw2 => ?_))
  obtain ⟨g2, hw2⟩ := hw2
  cases r with
  | inr k => exact ⟨g1.tr g2, hw2⟩
  | inl x =>
    obtain ⟨mg, p4, n4, q4, rfl, ol4, hv4, hp4, kg, hkg, em⟩ := hw2
    have rh := (RW_hdK (Gw_bdK w2) em).1
    unfold HDc at rh
    exact e30 w2 mg p4 n4 q4 (g1.tr g2) (OLDc.tr o1 ol4 (Nat.le_refl _)) hv4 (by omega) (Or.inr ⟨⟨by omega, (g1.tr g2).a6.trans e⟩, by omega, by omega, kg, em⟩)
theorem choice_okcK {S : SF_Pa_matched}
    (hr : ∀ u c p n q s, PSI u c p n q o s → OK (fun w r => NDQ (fun w m lo hi a b q r => ∃ k, (1 ≤ k ∧ k ≤ 4000) ∧ RWcK w 1 26 (GwK o w) k m lo hi a b q r) u c p n q o s w r) (S.2.2.2.2.2.2.2.2.2.2.2.2.2.2.2.2.2.2.1 u 0 (I ((4000 : Nat) : Int))))
    (hb : ∀ u c p n q s, PSI u c p n q o s → OK (fun w r => NDQ (fun w m lo hi a b q r => ∃ k, RWcK w 1 26 (BwK o w) k m lo hi a b q r) u c p n q o s w r) (S.2.2.2.2.2.2.2.2.2.1 u))
    (h : PSI u c p n q o s) : OK (fun w r => NDQ (fun w m lo hi a b q r => CHPcK w (BwK o w) (GwK o w) m lo hi a b q r ∧ A w 21 m = 0) u c p n q o s w r) (hm_Pa_choice N S u) := by
  have hc := h.1.1
  have h2p := h.2.2.1.2
  have hpc := h.2.1.2
  unfold hm_Pa_choice hb_Pa_choice_0
  rw [show u.1 665 = I ((p : Nat) : Int) by rw [I_F (k := 665), h.2.1.1]]
  refine ok_T (ok_mono (hr u c p n q s h) (fun w r hw => ?_))
  obtain ⟨gw, hw⟩ := hw
  cases r with
  | inr k => exact ⟨gw, hw⟩
  | inl x =>
    obtain ⟨g, p3, n3, q3, rfl, ol3, hv3, hp3, kg, hkg, eg⟩ := hw
    have rg := (RW_hdK (Gw_bdK w) eg).1
    unfold HDc at rg
    rw [show (38 : Int32) = I 38 from rfl]
    refine need_T hv3 (by omega) (fun w2 gw2 => ⟨gw.tr gw2, rfl⟩) (fun e38 h3 => ?_)
    have g1 : KPG w (wi w 665 ((p3 + 1 : Nat) : Int)) := KPG_at
    have o1 : OLDc w (wi w 665 ((p3 + 1 : Nat) : Int)) n3 s := OLDc.row rfl
    generalize wi w 665 ((p3 + 1 : Nat) : Int) = w1 at h3 g1 o1
    refine ok_T (ok_mono (hb w1 c (p3 + 1) n3 q3 s h3) (fun w2 r hw2 => ?_))
    obtain ⟨g2, hw2⟩ := hw2
    cases r with
    | inr k => exact ⟨gw.tr (g1.tr g2), hw2⟩
    | inl x =>
      obtain ⟨mb, p4, n4, q4, rfl, ol4, hv4, hp4, kb, em⟩ := hw2
      have rh := (RW_hdK (Bw_bdK w2) em).1
      unfold HDc at rh
      have n4b : n4 ≤ 8000 := by have := hv4.2.2.1.2; have := hv4.2.1.2; omega
      have p4c := hv4.2.1.2
      rw [show (25 : Int32) = I 25 from rfl, lit0q]
      refine add_B hv4 (by omega) ⟨by decide, by decide⟩ ⟨by omega, by omega⟩ ⟨by omega, by omega⟩ ⟨by omega, by omega⟩ ⟨by omega, by omega⟩ (fun w5 g5 o5 h5 fa => ok_some.mpr ?_)
      obtain ⟨f1, f2, f3, f4, f5, f6⟩ := fa
      have ow5 : OLDc w w5 n3 s := OLDc.tr o1 (OLDc.tr ol4 o5 (by omega)) (Nat.le_refl _)
      have gw5 : KPG w w5 := g1.tr (g2.tr g5)
      exact ⟨gw.tr gw5, n4 + 1, p4, n4 + 1, q4, rfl, OLDc.tr ol3 ow5 (by omega), h5, by omega, ⟨⟨⟨by omega, by omega⟩, by omega, by omega, by omega, by omega⟩, f1, ⟨p, f2, by omega, by omega⟩, f3, g, kg, p3, n3, q3, kb, mb, n4, ⟨f4, by omega, RW_kK (Gw_stK w w5) (Gw_bdK w) eg (KN_old gw5 ow5 (Nat.le_refl _))⟩, ⟨f5, RW_kK (Bw_stK w2 w5) (Bw_bdK w2) em (KN_old g5 o5 (Nat.le_refl _))⟩, by omega, gw5.a6.trans e38⟩, f6⟩
theorem oneCase_okcK {S : SF_Pa_matched}
    (hp : ∀ u c p n q s, PSI u c p n q o s → OK (fun w r => NDQ (fun w m lo hi a b q r => PwK o w m lo hi a b q r ∧ A w 21 m = 0) u c p n q o s w r) (S.2.2.2.2.2.2.2.2.2.2.2.2.2.2.2.2.2.1 u))
    (ht : ∀ u c p n q s t k m0 pl ph a, PSI u c p n q o s → t < p → pl ≤ ph ∧ ph ≤ p → ORcK u 1 26 (PwK o u) k m0 pl ph a n q q → OK (fun w r => NDQ (fun w m lo hi a1 b q r => PRTcK w (PwK o w) (BwK o w) (GwK o w) k m pl ph lo hi a b q r ∧ (a1 < m ∧ m = b) ∧ lo + 2 ≤ hi ∧ b + 1 + 2 * lo ≤ a1 + 2 * hi ∧ q ≤ r ∧ 5 * r + lo + 2 ≤ 5 * q + hi ∧ A w 21 m = 0 ∧ A w 17 m = ((t : Nat) : Int)) u c p n q o s w r) (S.2.2.2.2.2.1 u (I ((t : Nat) : Int)) (I ((m0 : Nat) : Int))))
    (h : PSI u c p n q o s) : OK (fun w r => NDQ (fun w m lo hi a b q r => CSPcK w (PwK o w) (BwK o w) (GwK o w) m lo hi a b q r ∧ A w 21 m = 0) u c p n q o s w r) (hm_Pa_oneCase N S u) := by
  unfold hm_Pa_oneCase hb_Pa_oneCase_0
  rw [show u.1 665 = I ((p : Nat) : Int) by rw [I_F (k := 665), h.2.1.1]]
  refine ok_T (ok_mono (hp u c p n q s h) (fun w r hw => ?_))
  obtain ⟨gw, hw⟩ := hw
  cases r with
  | inr k => exact ⟨gw, hw⟩
  | inl x =>
    obtain ⟨m, p3, n3, q3, rfl, ol3, hv3, hp3, em, m0⟩ := hw
    have hd := Pw_bdK w _ _ _ _ _ _ _ em
    have eq : q = q3 := PAqK em
    subst eq
    unfold HDc at hd
    refine ok_T (ok_mono (ht w c p3 n3 q s p 1 m p p3 n hv3 (by omega) (by omega) (Or.inr ⟨Nat.le_refl _, p3, n3, q, em, Or.inl ⟨rfl, m0, rfl, rfl, rfl⟩⟩)) (fun w2 r hw2 => ?_))
    obtain ⟨g2, hw2⟩ := hw2
    cases r with
    | inr k => exact ⟨gw.tr g2, hw2⟩
    | inl x =>
      obtain ⟨m2, p4, n4, q4, rfl, ol4, hv4, hp4, e1, e2, e3, e4, e5, e6, e7, -⟩ := hw2
      refine ok_some.mpr ⟨gw.tr g2, m2, p4, n4, q4, rfl, OLDc.tr ol3 ol4 (by omega), hv4, by omega, ⟨⟨⟨by omega, by omega⟩, by omega, by omega, by omega, by omega⟩, p3, e1⟩, e7⟩
theorem parts_okcK {S : SF_Pa_matched} {y : Int32} {Ew : MS → Nat → Nat → Nat → Nat → Nat → Nat → Nat → Prop} (hst : ∀ u w, StE u w (Ew u) (Ew w)) (hbd : ∀ u, BdE (Ew u))
    (he : y = 0 → ∀ u c p n q s, PSI u c p n q o s → OK (fun w r => NDQ (fun w m lo hi a b q r => Ew w m lo hi a b q r ∧ A w 21 m = 0) u c p n q o s w r) (S.2.2.2.2.1 u))
    (hp : y ≠ 0 → ∀ u c p n q s, PSI u c p n q o s → OK (fun w r => NDQ (fun w m lo hi a b q r => Ew w m lo hi a b q r ∧ A w 21 m = 0) u c p n q o s w r) (S.2.2.2.2.2.2.1 u))
    (h : PSI u c p n q o s) (hN : 10000 ≤ N) : OK (fun w r => NDQ (fun w m lo hi a b q r => ∃ k, RWcK w 1 27 (Ew w) k m lo hi a b q r) u c p n q o s w r) (hm_Pa_parts N S u y) := by
  have hc := h.1.1
  have gen : ∀ (M k j first l pp nn qq : Nat) (v : MS), KPG u v → OLDc u v n s → PSI v c pp nn qq o s → p ≤ pp → RPcK v 1 27 (Ew v) k first l p pp n nn q qq → A v 21 l = 0 → j ≤ 4000 → 4001 < M + pp → OK (fun w r => NDQ (fun w m lo hi a b q r => ∃ k, RWcK w 1 27 (Ew w) k m lo hi a b q r) u c p n q o s w r) (hg_Pa_parts N S M v y (I ((first : Nat) : Int)) (I ((l : Nat) : Int)) (I ((j : Nat) : Int))) := by
    intro M
    induction M with
    | zero =>
      intro k j first l pp nn qq v _ _ hv
      have := hv.2.1.2
      omega
    | succ M ih =>
      intro k j first l pp nn qq v g ol hv hpp rp h0 hj hM
      show OK _ (hb_Pa_parts_21 N S (hg_Pa_parts N S M) v y (I ((first : Nat) : Int)) (I ((l : Nat) : Int)) (I ((j : Nat) : Int)))
      unfold hb_Pa_parts_21 hb_Pa_parts_75
      have rh := RP_hdK (hbd v) rp
      have hk1 : 1 ≤ k := by
        cases k with
        | zero => exact rp.elim
        | succ k => omega
      have done : NDQ (fun w m lo hi a b q r => ∃ k, RWcK w 1 27 (Ew w) k m lo hi a b q r) u c p n q o s v (.inl (I ((first : Nat) : Int))) := ⟨g, first, pp, nn, qq, rfl, ol, hv, hpp, k, RW_ofK (hbd v) rp h0⟩
      rw [show (4000 : Int32) = I 4000 from rfl]
      refine k_le ⟨by decide, by decide⟩ ⟨by omega, by omega⟩ (fun _ => ok_some.mpr done) (fun hlt => look_T hv (fun w gw => ⟨g.tr gw, rfl⟩) (fun h45 => ?_))
      rw [show (27 : Int32) = I 27 from rfl]
      refine k_eq (A_r v 6 pp) ⟨by decide, by decide⟩ (fun e26 => ok_lt.mpr ?_) (fun _ => ok_some.mpr done)
      obtain ⟨hlt2, hv2⟩ := PSI_at hv ⟨by omega, by omega⟩
      rw [inc_e hv]
      have g2 : KPG v (wi v 665 ((pp + 1 : Nat) : Int)) := KPG_at
      have o2 : OLDc v (wi v 665 ((pp + 1 : Nat) : Int)) nn s := OLDc.row rfl
      generalize wi v 665 ((pp + 1 : Nat) : Int) = v2 at hv2 g2 o2
      have step : ∀ (x : Option (MS × (Int32 ⊕ Nat))), OK (fun w r => NDQ (fun w m lo hi a b q r => Ew w m lo hi a b q r ∧ A w 21 m = 0) v2 c (pp + 1) nn qq o s w r) x → OK (fun w r => NDQ (fun w m lo hi a b q r => ∃ k, RWcK w 1 27 (Ew w) k m lo hi a b q r) u c p n q o s w r) (bTm x (fun u5 r5 => hb_Pa_parts_65 N S (hg_Pa_parts N S M) u5 y (I ((first : Nat) : Int)) (I ((j : Nat) : Int)) (I ((l : Nat) : Int)) r5)) := fun x hx => ok_T (ok_mono hx (fun w r hw => by
        obtain ⟨gw, hw⟩ := hw
        cases r with
        | inr k => exact ⟨g.tr (g2.tr gw), hw⟩
        | inl x =>
          obtain ⟨m, p3, n3, q3, rfl, ol3, hv3, hp3, em, m0⟩ := hw
          show OK _ (hb_Pa_parts_65 N S (hg_Pa_parts N S M) w y (I ((first : Nat) : Int)) (I ((j : Nat) : Int)) (I ((l : Nat) : Int)) (I ((m : Nat) : Int)))
          unfold hb_Pa_parts_65
          have hm := hbd w _ _ _ _ _ _ _ em
          have hm1 := hm.1
          have n3b : n3 ≤ 8000 := by have := hv3.2.2.1.2; have := hv3.2.1.2; omega
          rw [chain_e (by omega), bnd_so, lit1q, I_add, show ((j : Nat) : Int) + 1 = ((j + 1 : Nat) : Int) by omega]
          have ov : OLDc v w nn s := OLDc.tr o2 ol3 (Nat.le_refl _)
          have gv : KPG v w := g2.tr gw
          have gw2 : KPG w (wa w 21 l ((m : Nat) : Int)) := FR.wa FR.rf (by simp)
          have a21 : ∀ k, k ≠ l → A (wa w 21 l ((m : Nat) : Int)) 21 k = A w 21 k := fun k hk => wa_ne hk
          have aO : ∀ r k, r ≠ 21 → A (wa w 21 l ((m : Nat) : Int)) r k = A w r k := fun r k hr => wa_rne hr
          have a21l : A (wa w 21 l ((m : Nat) : Int)) 21 l = ((m : Nat) : Int) := wa_eq ⟨by omega, by omega⟩
          have hv4 : PSI (wa w 21 l ((m : Nat) : Int)) c p3 n3 q3 o s := ⟨TKK_g gw2 hv3.1, hv3.2⟩
          have e6 : (wa w 21 l ((m : Nat) : Int)).2.2.1 6 = w.2.2.1 6 := gw2.2.2.1 6 (by simp)
          have e7 : (wa w 21 l ((m : Nat) : Int)).2.2.1 7 = w.2.2.1 7 := gw2.2.2.1 7 (by simp)
          generalize wa w 21 l ((m : Nat) : Int) = w5 at gw2 a21 aO a21l hv4 e6 e7
          have kv : KNc v w5 n nn l := ⟨⟨e6.trans (gv.2.2.1 6 (by simp)), e7.trans (gv.2.2.1 7 (by simp))⟩, fun k k1 k2 => by
            obtain ⟨b1, b2, b3, b4, b5, b6⟩ := ov.1 k k2
            exact ⟨⟨by rw [aO _ _ (by decide)]; exact b1, by rw [aO _ _ (by decide)]; exact b2, by rw [aO _ _ (by decide)]; exact b3, by rw [aO _ _ (by decide)]; exact b4, by rw [aO _ _ (by decide)]; exact b5⟩, fun k3 => by rw [a21 k k3]; exact b6⟩⟩
          have kw : KNc w w5 nn n3 m := ⟨⟨e6, e7⟩, fun k k1 k2 => ⟨⟨aO _ _ (by decide), aO _ _ (by decide), aO _ _ (by decide), aO _ _ (by decide), aO _ _ (by decide)⟩, fun k3 => a21 k (by omega)⟩⟩
          have rp5 := RP_kK (hst v w5) (hbd v) rp kv
          have em5 := hst w w5 _ _ _ _ _ _ _ em kw
          refine ih (k + 1) (j + 1) first m p3 n3 q3 w5 (g.tr (gv.tr gw2)) ?_ hv4 (by omega) (Or.inr ⟨hk1, l, pp, nn, qq, rp5, ⟨a21l, fun _ => (gv.tr gw2).a6.trans e26⟩, em5⟩) ?_ (by omega) (by omega)
          · have o6 := OLDc.tr ol ov (by omega)
            refine ⟨fun k hk => ?_, fun i hi => by rw [aO _ _ (by decide)]; exact o6.2 i hi⟩
            obtain ⟨b1, b2, b3, b4, b5, b6⟩ := o6.1 k hk
            exact ⟨by rw [aO _ _ (by decide)]; exact b1, by rw [aO _ _ (by decide)]; exact b2, by rw [aO _ _ (by decide)]; exact b3, by rw [aO _ _ (by decide)]; exact b4, by rw [aO _ _ (by decide)]; exact b5, by rw [a21 k (by omega)]; exact b6⟩
          · rw [a21 m (by omega)]; exact m0))
      exact ok_br.mpr ⟨fun z => step _ (he (of_decide_eq_true z) v2 c (pp + 1) nn qq s hv2), fun z => step _ (hp (of_decide_eq_false z) v2 c (pp + 1) nn qq s hv2)⟩
  unfold hm_Pa_parts hb_Pa_parts_0 hb_Pa_parts_15
  have step : ∀ (x : Option (MS × (Int32 ⊕ Nat))), OK (fun w r => NDQ (fun w m lo hi a b q r => Ew w m lo hi a b q r ∧ A w 21 m = 0) u c p n q o s w r) x → OK (fun w r => NDQ (fun w m lo hi a b q r => ∃ k, RWcK w 1 27 (Ew w) k m lo hi a b q r) u c p n q o s w r) (bTm x (fun u7 r7 => hg_Pa_parts N S N u7 y r7 r7 0)) := fun x hx => ok_T (ok_mono hx (fun w r hw => by
    obtain ⟨gw, hw⟩ := hw
    cases r with
    | inr k => exact ⟨gw, hw⟩
    | inl x =>
      obtain ⟨m, p3, n3, q3, rfl, ol3, hv3, hp3, em, m0⟩ := hw
      show OK _ (hg_Pa_parts N S N w y (I ((m : Nat) : Int)) (I ((m : Nat) : Int)) (I ((0 : Nat) : Int)))
      exact gen N 1 0 m m p3 n3 q3 w gw ol3 hv3 hp3 (Or.inl ⟨rfl, rfl, em⟩) m0 (by omega) (by omega)))
  exact ok_br.mpr ⟨fun z => step _ (he (of_decide_eq_true z) u c p n q s h), fun z => step _ (hp (of_decide_eq_false z) u c p n q s h)⟩
end
end
section
set_option maxRecDepth 100000
def UwK (cl o : Nat) (w : MS) : Nat → Nat → Nat → Nat → Nat → Nat → Nat → Prop := XPcK w (4 * (26 - o) + cl) o cl
section
variable {u v w : MS} {N c p n q o s p2 n2 q2 m a b l lo hi r d most f t pl ph z : Nat}
theorem Uw_stK {cl : Nat} (u w : MS) : StE u w (UwK cl o u) (UwK cl o w) := XP_kK (Nat.le_refl _) (Nat.le_refl _)
theorem Uw_bdK {cl : Nat} (u : MS) : BdE (UwK cl o u) := XP_bdK _ _ _
theorem BXK (ho : o ≤ 25) (u w : MS) : StE u w (BwK o u) (XPcK w (4 * (25 - o) + 3) (o + 2) 3) := XP_kK (by omega) (Nat.le_refl _)
theorem GXK (u w : MS) : StE u w (GwK o u) (XPcK w (4 * (25 - o) + 3) (o + 1) 3) := XP_kK (Nat.le_refl _) (Nat.le_refl _)
theorem PXK (ho : o ≤ 25) (u w : MS) : StE u w (PwK o u) (PAcK w (4 * (25 - o) + 3)) := PA_kK (by omega)
theorem CXcK (ho : o ≤ 25) (u w : MS) : StE u w (CSPcK u (PwK o u) (BwK o u) (GwK o u)) (CSPcK w (PAcK w (4 * (25 - o) + 3)) (XPcK w (4 * (25 - o) + 3) (o + 2) 3) (XPcK w (4 * (25 - o) + 3) (o + 1) 3)) := CSP_kK (PXK ho u w) (BXK ho u w) (GXK u w) (Pw_bdK u) (Bw_bdK u) (Gw_bdK u)
theorem HXK (ho : o ≤ 25) (u w : MS) : StE u w (CHPcK u (BwK o u) (GwK o u)) (CHPcK w (XPcK w (4 * (25 - o) + 3) (o + 2) 3) (XPcK w (4 * (25 - o) + 3) (o + 1) 3)) := CHP_kK (BXK ho u w) (GXK u w) (Bw_bdK u) (Gw_bdK u)
theorem XP_17 {cl : Nat} (h : XPcK u f o cl n lo hi a b q r) (h0 : cl = 0) : A u 17 n = ((lo : Nat) : Int) := by
  subst h0
  cases f with
  | zero => exact h.elim
  | succ f =>
    obtain ⟨-, -, -, h4⟩ := h
    rcases h4 with ⟨h4, -⟩ | ⟨h4, m, c, h5, h6, h7, -, -, hk⟩ | ⟨h4, h5, hk⟩ | ⟨h4, h5, hk⟩ | ⟨h4, k, m, c, h5, h6, h7, -, -, hk⟩ | ⟨h4, x, mid, c, s, k, m, c2, h5, h6, h7, h8, h9, -, -, -, hk⟩ | ⟨h4, k, m, c, h5, h6, h7, -, -, hk⟩ | ⟨h4, k, m, m1, c1, s1, h5, h6, h7⟩ | ⟨h4, k, m, ph, c, h5, -⟩ | h4 | ⟨h4, h5, -⟩ | ⟨h4, h5, -⟩ | ⟨h4, h5, -⟩ | ⟨h4, h5, -⟩ | ⟨h4, h5, -⟩ | ⟨h4, h5, -⟩ | ⟨h4, h5, -⟩
    · exact h4.2.2.1
    · exact hk
    · exact hk
    · exact hk
    · exact hk
    · exact hk
    · exact hk
    · rcases h7 with ⟨-, -, -, -, -, -, -, -, hk⟩ | ⟨x, m2, c2, s2, kb, mb, c3, -, -, -, -, -, -, -, -, -, -, hk⟩
      · exact hk
      · exact hk
    · exact h5
    · exact h4.2.1.2.2.2.2.2.1
    · exact h5
    · omega
    · omega
    · omega
    · omega
    · omega
    · omega
theorem caseOf_okcK {S : SF_Pa_matched} (ho : o ≤ 25)
    (hx : ∀ u c p n q s, PSI u c p n q o s → OK (fun w r => NDQ (fun w m lo hi a b q r => GwK o w m lo hi a b q r ∧ A w 21 m = 0) u c p n q o s w r) (S.2.2.2.2.2.2.2.2.2.2.2.2.2.2.1 u 1))
    (hp : ∀ u c p n q s, PSI u c p n q o s → OK (fun w r => NDQ (fun w m lo hi a b q r => ∃ k, RWcK w 1 27 (CSPcK w (PwK o w) (BwK o w) (GwK o w)) k m lo hi a b q r) u c p n q o s w r) (S.2.2.2.2.2.2.2.1 u 1))
    (h : PSI u c p n q o s) (hk : A u 6 p = 8) : OK (fun w r => NDQ (fun w m lo hi a b q r => UwK 0 o w m lo hi a b q r ∧ A w 21 m = 0) u c p n q o s w r) (hm_Pa_caseOf N S u) := by
  have hc := h.1.1
  have h2p := h.2.2.1.2
  unfold hm_Pa_caseOf hb_Pa_caseOf_0
  obtain ⟨hpc, h2⟩ := PSI_at h (by omega)
  refine ok_lt.mpr ?_
  rw [inc_e h, show u.1 665 = I ((p : Nat) : Int) by rw [I_F (k := 665), h.2.1.1]]
  have g1 : KPG u (wi u 665 ((p + 1 : Nat) : Int)) := KPG_at
  have o1 : OLDc u (wi u 665 ((p + 1 : Nat) : Int)) n s := OLDc.row rfl
  generalize wi u 665 ((p + 1 : Nat) : Int) = v at h2 g1 o1
  refine ok_T (ok_mono (hx v c (p + 1) n q s h2) (fun w r hw => ?_))
  obtain ⟨gw, hw⟩ := hw
  cases r with
  | inr k => exact ⟨g1.tr gw, hw⟩
  | inl x =>
    obtain ⟨x, p3, n3, q3, rfl, ol3, hv3, hp3, ex, -⟩ := hw
    have hd := Gw_bdK w _ _ _ _ _ _ _ ex
    unfold HDc at hd
    rw [show (15 : Int32) = I 15 from rfl]
    refine need_T hv3 (by omega) (fun w2 gw2 => ⟨g1.tr (gw.tr gw2), rfl⟩) (fun e15 h3 => ?_)
    have g3 : KPG w (wi w 665 ((p3 + 1 : Nat) : Int)) := KPG_at
    have o3 : OLDc w (wi w 665 ((p3 + 1 : Nat) : Int)) n3 s := OLDc.row rfl
    generalize wi w 665 ((p3 + 1 : Nat) : Int) = w1 at h3 g3 o3
    refine ok_T (ok_mono (hp w1 c (p3 + 1) n3 q3 s h3) (fun w2 r hw2 => ?_))
    obtain ⟨g2, hw2⟩ := hw2
    cases r with
    | inr k => exact ⟨g1.tr (gw.tr (g3.tr g2)), hw2⟩
    | inl x2 =>
      obtain ⟨mp, p4, n4, q4, rfl, ol4, hv4, hp4, kb, em⟩ := hw2
      have rh := (RW_hdK CSP_bdK em).1
      unfold HDc at rh
      rw [show (11 : Int32) = I 11 from rfl]
      refine need_T hv4 (by omega) (fun w2 gw2 => ⟨g1.tr (gw.tr (g3.tr (g2.tr gw2))), rfl⟩) (fun e11 h5 => ?_)
      have g5 : KPG w2 (wi w2 665 ((p4 + 1 : Nat) : Int)) := KPG_at
      have o5 : OLDc w2 (wi w2 665 ((p4 + 1 : Nat) : Int)) n4 s := OLDc.row rfl
      generalize wi w2 665 ((p4 + 1 : Nat) : Int) = w3 at h5 g5 o5
      have n4b : n4 ≤ 8000 := by have := hv4.2.2.1.2; have := hv4.2.1.2; omega
      have p5c := h5.2.1.2
      rw [lit0q, show (9 : Int32) = I 9 from rfl]
      refine add_B h5 (by omega) ⟨by decide, by decide⟩ ⟨by omega, by omega⟩ ⟨by omega, by omega⟩ ⟨by omega, by omega⟩ ⟨by decide, by decide⟩ (fun w4 g6 o6 h6 fa => ok_some.mpr ?_)
      obtain ⟨f1, f2, f3, f4, f5, f6⟩ := fa
      have gw4 : KPG w w4 := g3.tr (g2.tr (g5.tr g6))
      have ow4 : OLDc w w4 n3 s := OLDc.tr o3 (OLDc.tr ol4 (OLDc.tr o5 o6 (Nat.le_refl _)) (by omega)) (Nat.le_refl _)
      have g24 : KPG w2 w4 := g5.tr g6
      have o24 : OLDc w2 w4 n4 s := OLDc.tr o5 o6 (Nat.le_refl _)
      refine ⟨g1.tr (gw.tr gw4), n4 + 1, p4 + 1, n4 + 1, q4, rfl, OLDc.tr o1 (OLDc.tr ol3 ow4 (by omega)) (Nat.le_refl _), h6, by omega, ?_, f6⟩
      show XPcK w4 (4 * (26 - o)) o 0 _ _ _ _ _ _ _
      rw [f_o ho]
      exact ⟨⟨⟨by omega, by omega⟩, by omega, by omega, by omega, by omega⟩, ⟨p, f2, by omega, by omega⟩, ho, Or.inr (Or.inr (Or.inr (Or.inr (Or.inr (Or.inl ⟨f1, x, p3, n3, q3, kb, mp, n4, f3, GXK w w4 _ _ _ _ _ _ _ ex (KN_old gw4 ow4 (Nat.le_refl _)), f4, RW_kK (CXcK ho w2 w4) CSP_bdK em (KN_old g24 o24 (Nat.le_refl _)), by omega, (g1.tr (gw.tr gw4)).a6.trans hk, gw4.a6.trans e15, by rw [show p4 + 1 - 1 = p4 by omega]; exact g24.a6.trans e11, f2⟩)))))⟩
theorem receive_okcK {S : SF_Pa_matched} (ho : o ≤ 25)
    (hx : ∀ u c p n q s, PSI u c p n q o s → OK (fun w r => NDQ (fun w m lo hi a b q r => GwK o w m lo hi a b q r ∧ A w 21 m = 0) u c p n q o s w r) (S.2.2.2.2.2.2.2.2.2.2.2.2.2.2.1 u 1))
    (hp : ∀ u c p n q s, PSI u c p n q o s → OK (fun w r => NDQ (fun w m lo hi a b q r => ∃ k, RWcK w 1 27 (CSPcK w (PwK o w) (BwK o w) (GwK o w)) k m lo hi a b q r) u c p n q o s w r) (S.2.2.2.2.2.2.2.1 u 1))
    (hb : ∀ u c p n q s, PSI u c p n q o s → OK (fun w r => NDQ (fun w m lo hi a b q r => ∃ k, RWcK w 1 26 (BwK o w) k m lo hi a b q r) u c p n q o s w r) (S.2.2.2.2.2.2.2.2.2.1 u))
    (h : PSI u c p n q o s) (hk : A u 6 p = 17) : OK (fun w r => NDQ (fun w m lo hi a b q r => UwK 0 o w m lo hi a b q r ∧ A w 21 m = 0) u c p n q o s w r) (hm_Pa_receive N S u) := by
  have hc := h.1.1
  have h2p := h.2.2.1.2
  unfold hm_Pa_receive hb_Pa_receive_0
  obtain ⟨hpc, h2⟩ := PSI_at h (by omega)
  refine ok_lt.mpr ?_
  rw [inc_e h, show u.1 665 = I ((p : Nat) : Int) by rw [I_F (k := 665), h.2.1.1]]
  have g1 : KPG u (wi u 665 ((p + 1 : Nat) : Int)) := KPG_at
  have o1 : OLDc u (wi u 665 ((p + 1 : Nat) : Int)) n s := OLDc.row rfl
  generalize wi u 665 ((p + 1 : Nat) : Int) = v at h2 g1 o1
  have e75 : ∀ (w w0 : MS) (k mc m1 c1 s1 x mb p3 n3 q3 : Nat), KPG u w0 → KPG w0 w → OLDc u w0 n s → OLDc w0 w c1 s → n ≤ c1 → PSI w c p3 n3 q3 o s → p + 1 ≤ m1 → mc ≤ c1 → (c1 + 2 * (p + 1) ≤ n + 2 * m1 ∧ q ≤ s1 ∧ 5 * s1 + (p + 1) ≤ 5 * q + m1) → ORcK w0 1 27 (CSPcK w0 (PwK o w0) (BwK o w0) (GwK o w0)) k mc (p + 1) m1 n c1 q s1 → ((x = 0 ∧ mb = 0 ∧ 1 ≤ k ∧ p3 = m1 ∧ s1 = q3 ∧ c1 = n3) ∨ (1 ≤ x ∧ (x ≤ n3 ∧ mb ≤ n3) ∧ (m1 + 3 ≤ p3 ∧ c1 ≤ n3 ∧ n3 + 2 * m1 ≤ c1 + 2 * p3 ∧ s1 ≤ q3 ∧ 5 * q3 + m1 ≤ 5 * s1 + p3) ∧ ∃ m2 c2 s2 kb, (c2 ≤ n3 ∧ A w 6 m1 = 5 ∧ A w 6 m2 = 38) ∧ GwK o w x (m1 + 1) m2 c1 c2 s1 s2 ∧ RWcK w 1 26 (BwK o w) kb mb (m2 + 1) p3 c2 n3 s2 q3)) → OK (fun w r => NDQ (fun w m lo hi a b q r => UwK 0 o w m lo hi a b q r ∧ A w 21 m = 0) u c p n q o s w r) (hb_Pa_receive_75 N S () w (I ((p : Nat) : Int)) (I ((mc : Nat) : Int)) (I ((x : Nat) : Int)) (I ((mb : Nat) : Int))) := by
    intro w w0 k mc m1 c1 s1 x mb p3 n3 q3 gu0 g0w ou0 o0w hnc hw hm1 hmc hcnt ec hx
    unfold hb_Pa_receive_75
    rw [show (11 : Int32) = I 11 from rfl]
    refine need_T hw (by omega) (fun w2 gw2 => ⟨gu0.tr (g0w.tr gw2), rfl⟩) (fun e11 h5 => ?_)
    have g5 : KPG w (wi w 665 ((p3 + 1 : Nat) : Int)) := KPG_at
    have o5 : OLDc w (wi w 665 ((p3 + 1 : Nat) : Int)) n3 s := OLDc.row rfl
    generalize wi w 665 ((p3 + 1 : Nat) : Int) = w3 at h5 g5 o5
    have n4b : n3 ≤ 8000 := by have := hw.2.2.1.2; have := hw.2.1.2; omega
    have p5c := h5.2.1.2
    have xb : x ≤ n3 ∧ mb ≤ n3 ∧ c1 ≤ n3 ∧ m1 ≤ p3 ∧ n3 + 2 * m1 ≤ c1 + 2 * p3 ∧ s1 ≤ q3 ∧ 5 * q3 + m1 ≤ 5 * s1 + p3 := by
      rcases hx with hx | ⟨-, h1, h2, -⟩ <;> omega
    refine add_B h5 (by omega) ⟨by decide, by decide⟩ ⟨by omega, by omega⟩ ⟨by omega, by omega⟩ ⟨by omega, by omega⟩ ⟨by omega, by omega⟩ (fun w4 g6 o6 h6 fa => ok_some.mpr ?_)
    obtain ⟨f1, f2, f3, f4, f5, f6⟩ := fa
    have g04 : KPG w0 w4 := g0w.tr (g5.tr g6)
    have ow4 : OLDc w w4 n3 s := OLDc.tr o5 o6 (Nat.le_refl _)
    have o04 : OLDc w0 w4 c1 s := OLDc.tr o0w ow4 (by omega)
    refine ⟨gu0.tr g04, n3 + 1, p3 + 1, n3 + 1, q3, rfl, OLDc.tr ou0 o04 hnc, h6, by omega, ?_, f6⟩
    show XPcK w4 (4 * (26 - o)) o 0 _ _ _ _ _ _ _
    rw [f_o ho]
    refine ⟨⟨⟨by omega, by omega⟩, by omega, by omega, by omega, by omega⟩, ⟨p, f2, by omega, by omega⟩, ho, Or.inr (Or.inr (Or.inr (Or.inr (Or.inr (Or.inr (Or.inr (Or.inl ⟨f1, k, mc, m1, c1, s1, f4, OR_kK (CXcK ho w0 w4) CSP_bdK ec (KN_old g04 o04 (Nat.le_refl _)), ?_⟩)))))))⟩
    rcases hx with ⟨h1, h2, h3, h4, h5, h6⟩ | ⟨h1, -, -, m2, c2, s2, kb, h2, h3, h4⟩
    · exact Or.inl ⟨by rw [f3, h1]; rfl, by rw [f5, h2]; rfl, h3, by omega, h5, by omega, (gu0.tr g04).a6.trans hk, by rw [show p3 + 1 - 1 = p3 by omega]; exact (g5.tr g6).a6.trans e11, f2⟩
    · exact Or.inr ⟨x, m2, c2, s2, kb, mb, n3, h1, f3, GXK w w4 _ _ _ _ _ _ _ h3 (KN_old (g5.tr g6) ow4 h2.1), f5, by rw [show p3 + 1 - 1 = p3 by omega]; exact RW_kK (BXK ho w w4) (Bw_bdK w) h4 (KN_old (g5.tr g6) ow4 (Nat.le_refl _)), by omega, (gu0.tr g04).a6.trans hk, (g5.tr g6).a6.trans h2.2.1, (g5.tr g6).a6.trans h2.2.2, by rw [show p3 + 1 - 1 = p3 by omega]; exact (g5.tr g6).a6.trans e11, f2⟩
  have e32 : ∀ (w0 : MS) (k mc m1 c1 s1 : Nat), KPG u w0 → OLDc u w0 n s → n ≤ c1 → PSI w0 c m1 c1 s1 o s → p + 1 ≤ m1 → mc ≤ c1 → (c1 + 2 * (p + 1) ≤ n + 2 * m1 ∧ q ≤ s1 ∧ 5 * s1 + (p + 1) ≤ 5 * q + m1) → ORcK w0 1 27 (CSPcK w0 (PwK o w0) (BwK o w0) (GwK o w0)) k mc (p + 1) m1 n c1 q s1 → (k = 0 → A w0 6 m1 = 5) → OK (fun w r => NDQ (fun w m lo hi a b q r => UwK 0 o w m lo hi a b q r ∧ A w 21 m = 0) u c p n q o s w r) (hb_Pa_receive_32 N S () w0 (I ((p : Nat) : Int)) (I ((mc : Nat) : Int))) := by
    intro w0 k mc m1 c1 s1 gu0 ou0 hnc h0 hm1 hmc hcnt ec hk0
    unfold hb_Pa_receive_32
    refine look_T h0 (fun w gw => ⟨gu0.tr gw, rfl⟩) (fun h45 => ?_)
    rw [show (5 : Int32) = I 5 from rfl]
    refine k_eq (A_r w0 6 m1) ⟨by decide, by decide⟩ (fun e => ok_lt.mpr ?_) (fun ne => e75 w0 w0 k mc m1 c1 s1 0 0 m1 c1 s1 gu0 KPG.rf ou0 OLDc.rf hnc h0 hm1 hmc hcnt ec (Or.inl ⟨rfl, rfl, by rcases Nat.eq_zero_or_pos k with z | z; exact absurd (hk0 z) ne; exact z, rfl, rfl, rfl⟩))
    obtain ⟨hlt2, h3⟩ := PSI_at h0 (by omega)
    rw [inc_e h0]
    have g3 : KPG w0 (wi w0 665 ((m1 + 1 : Nat) : Int)) := KPG_at
    have o3 : OLDc w0 (wi w0 665 ((m1 + 1 : Nat) : Int)) c1 s := OLDc.row rfl
    generalize wi w0 665 ((m1 + 1 : Nat) : Int) = w1 at h3 g3 o3
    refine ok_T (ok_mono (hx w1 c (m1 + 1) c1 s1 s h3) (fun w2 r hw2 => ?_))
    obtain ⟨g2, hw2⟩ := hw2
    cases r with
    | inr k => exact ⟨gu0.tr (g3.tr g2), hw2⟩
    | inl x2 =>
      obtain ⟨x, p4, n4, q4, rfl, ol4, hv4, hp4, ex, -⟩ := hw2
      have hd := Gw_bdK w2 _ _ _ _ _ _ _ ex
      unfold HDc at hd
      rw [show (38 : Int32) = I 38 from rfl]
      refine need_T hv4 (by omega) (fun w2 gw2 => ⟨gu0.tr (g3.tr (g2.tr gw2)), rfl⟩) (fun e38 h5 => ?_)
      have g5 : KPG w2 (wi w2 665 ((p4 + 1 : Nat) : Int)) := KPG_at
      have o5 : OLDc w2 (wi w2 665 ((p4 + 1 : Nat) : Int)) n4 s := OLDc.row rfl
      generalize wi w2 665 ((p4 + 1 : Nat) : Int) = w3 at h5 g5 o5
      refine ok_T (ok_mono (hb w3 c (p4 + 1) n4 q4 s h5) (fun w4 r hw4 => ?_))
      obtain ⟨g6, hw4⟩ := hw4
      cases r with
      | inr k => exact ⟨gu0.tr (g3.tr (g2.tr (g5.tr g6))), hw4⟩
      | inl x2 =>
        obtain ⟨mb, p6, n6, q6, rfl, ol6, hv6, hp6, kb, em⟩ := hw4
        have rh := (RW_hdK (Bw_bdK w4) em).1
        unfold HDc at rh
        exact e75 w4 w0 k mc m1 c1 s1 x mb p6 n6 q6 gu0 (g3.tr (g2.tr (g5.tr g6))) ou0 (OLDc.tr o3 (OLDc.tr ol4 (OLDc.tr o5 ol6 (Nat.le_refl _)) (by omega)) (Nat.le_refl _)) hnc hv6 hm1 hmc hcnt ec (Or.inr ⟨by omega, by omega, by omega, p4, n4, q4, kb, ⟨by omega, (g3.tr (g2.tr (g5.tr g6))).a6.trans e, (g5.tr g6).a6.trans e38⟩, Gw_stK w2 w4 _ _ _ _ _ _ _ ex (KN_old (g5.tr g6) (OLDc.tr o5 ol6 (Nat.le_refl _)) (Nat.le_refl _)), em⟩)
  refine look_T h2 (fun w gw => ⟨g1.tr gw, rfl⟩) (fun h45 => ?_)
  rw [show (5 : Int32) = I 5 from rfl]
  refine k_eq (A_r v 6 (p + 1)) ⟨by decide, by decide⟩ (fun e => ?_) (fun _ => ?_)
  · exact e32 v 0 0 (p + 1) n q g1 o1 (Nat.le_refl _) h2 (Nat.le_refl _) (by omega) (by omega) (Or.inl ⟨rfl, rfl, rfl, rfl, rfl⟩) (fun _ => e)
  · refine ok_T (ok_mono (hp v c (p + 1) n q s h2) (fun w2 r hw2 => ?_))
    obtain ⟨g2, hw2⟩ := hw2
    cases r with
    | inr k => exact ⟨g1.tr g2, hw2⟩
    | inl x2 =>
      obtain ⟨mp, p4, n4, q4, rfl, ol4, hv4, hp4, kb, em⟩ := hw2
      obtain ⟨rh, hk1⟩ := RW_hdK CSP_bdK em
      unfold HDc at rh
      exact e32 w2 kb mp p4 n4 q4 (g1.tr g2) (OLDc.tr o1 ol4 (Nat.le_refl _)) (by omega) hv4 hp4 (by omega) (by omega) (Or.inr ⟨hk1, em⟩) (fun z => by omega)
theorem fun_okcK {S : SF_Pa_matched} (ho : o ≤ 25)
    (hr : ∀ u c p n q s, PSI u c p n q o s → OK (fun w r => NDQ (fun w m lo hi a b q r => (lo + 1 ≤ hi ∧ A w 6 (hi - 1) = 21) ∧ ∃ k, k ≤ 6 ∧ ORcK w 1 26 (PwK o w) k m lo (hi - 1) a b q r) u c p n q o s w r) (S.2.2.2.2.2.2.2.2.2.2.2.2.2.2.2.2.2.2.2 u 1 (I ((6 : Nat) : Int)) (I 21)))
    (ht : ∀ u c p n q s t k m0 pl ph a, PSI u c p n q o s → t < p → pl ≤ ph ∧ ph ≤ p → ORcK u 1 26 (PwK o u) k m0 pl ph a n q q → OK (fun w r => NDQ (fun w m lo hi a1 b q r => PRTcK w (PwK o w) (BwK o w) (GwK o w) k m pl ph lo hi a b q r ∧ (a1 < m ∧ m = b) ∧ lo + 2 ≤ hi ∧ b + 1 + 2 * lo ≤ a1 + 2 * hi ∧ q ≤ r ∧ 5 * r + lo + 2 ≤ 5 * q + hi ∧ A w 21 m = 0 ∧ A w 17 m = ((t : Nat) : Int)) u c p n q o s w r) (S.2.2.2.2.2.1 u (I ((t : Nat) : Int)) (I ((m0 : Nat) : Int))))
    (h : PSI u c p n q o s) (hk : A u 6 p = 12) : OK (fun w r => NDQ (fun w m lo hi a b q r => UwK 0 o w m lo hi a b q r ∧ A w 21 m = 0) u c p n q o s w r) (hm_Pa_fun N S u) := by
  have hc := h.1.1
  have h2p := h.2.2.1.2
  unfold hm_Pa_fun hb_Pa_fun_0
  obtain ⟨hpc, h2⟩ := PSI_at h (by omega)
  refine ok_lt.mpr ?_
  rw [inc_e h, show u.1 665 = I ((p : Nat) : Int) by rw [I_F (k := 665), h.2.1.1]]
  have g1 : KPG u (wi u 665 ((p + 1 : Nat) : Int)) := KPG_at
  have o1 : OLDc u (wi u 665 ((p + 1 : Nat) : Int)) n s := OLDc.row rfl
  generalize wi u 665 ((p + 1 : Nat) : Int) = v at h2 g1 o1
  refine look_T h2 (fun w gw => ⟨g1.tr gw, rfl⟩) (fun h45 => ?_)
  rw [show (2 : Int32) = I 2 from rfl]
  refine k_eq (A_r v 6 (p + 1)) ⟨by decide, by decide⟩ (fun e => ok_lt.mpr ?_) (fun _ => ?_)
  · obtain ⟨hlt2, h3⟩ := PSI_at h2 (by omega)
    rw [inc_e h2, show v.1 665 = I ((p + 1 : Nat) : Int) by rw [I_F (k := 665), h2.2.1.1]]
    have g3 : KPG v (wi v 665 ((p + 1 + 1 : Nat) : Int)) := KPG_at
    have o3 : OLDc v (wi v 665 ((p + 1 + 1 : Nat) : Int)) n s := OLDc.row rfl
    generalize wi v 665 ((p + 1 + 1 : Nat) : Int) = w1 at h3 g3 o3
    rw [show (37 : Int32) = I 37 from rfl]
    refine need_T h3 (by omega) (fun w2 gw2 => ⟨g1.tr (g3.tr gw2), rfl⟩) (fun e37 h4 => ?_)
    have g4 : KPG w1 (wi w1 665 ((p + 1 + 1 + 1 : Nat) : Int)) := KPG_at
    have o4 : OLDc w1 (wi w1 665 ((p + 1 + 1 + 1 : Nat) : Int)) n s := OLDc.row rfl
    generalize wi w1 665 ((p + 1 + 1 + 1 : Nat) : Int) = w2 at h4 g4 o4
    rw [lit1q]
    refine need_T h4 (by omega) (fun w2 gw2 => ⟨g1.tr (g3.tr (g4.tr gw2)), rfl⟩) (fun e1 h5 => ?_)
    have g5 : KPG w2 (wi w2 665 ((p + 1 + 1 + 1 + 1 : Nat) : Int)) := KPG_at
    have o5 : OLDc w2 (wi w2 665 ((p + 1 + 1 + 1 + 1 : Nat) : Int)) n s := OLDc.row rfl
    generalize wi w2 665 ((p + 1 + 1 + 1 + 1 : Nat) : Int) = w3 at h5 g5 o5
    have p5c := h5.2.1.2
    refine e_in ⟨by omega, by omega⟩ (by decide) (e_in ⟨by omega, by omega⟩ (by decide) ?_)
    rw [tnI (n := p + 1) rfl (by omega), tnI (n := p + 1 + 1 + 1) rfl (by omega), I_A (k := 7), I_A (k := 7), lit0q, show (13 : Int32) = I 13 from rfl]
    refine add_B h5 (by omega) ⟨by decide, by decide⟩ ⟨by omega, by omega⟩ (A_r w3 7 _) (A_r w3 7 _) ⟨by decide, by decide⟩ (fun w4 g6 o6 h6 fa => ok_some.mpr ?_)
    obtain ⟨f1, f2, f3, f4, f5, f6⟩ := fa
    refine ⟨g1.tr (g3.tr (g4.tr (g5.tr g6))), n + 1, p + 1 + 1 + 1 + 1, n + 1, q, rfl, OLDc.tr o1 (OLDc.tr o3 (OLDc.tr o4 (OLDc.tr o5 o6 (Nat.le_refl _)) (Nat.le_refl _)) (Nat.le_refl _)) (Nat.le_refl _), h6, by omega, ?_, f6⟩
    show XPcK w4 (4 * (26 - o)) o 0 _ _ _ _ _ _ _
    rw [f_o ho]
    exact ⟨⟨⟨by omega, by omega⟩, by omega, by omega, by omega, by omega⟩, ⟨p, f2, by omega, by omega⟩, ho, Or.inr (Or.inr (Or.inr (Or.inr (Or.inr (Or.inr (Or.inr (Or.inr (Or.inr (Or.inl ⟨f1, ⟨by omega, (g1.tr (g3.tr (g4.tr (g5.tr g6)))).a6.trans hk, (g3.tr (g4.tr (g5.tr g6))).a6.trans e, (g4.tr (g5.tr g6)).a6.trans e37, (g5.tr g6).a6.trans e1, f2, f3.trans (show A w3 7 _ = A w4 7 _ by show _ = (w4.2.2.1 7 _).toInt; rw [g6.2.2.1 7 (by simp)]; rfl), f4.trans (show A w3 7 _ = A w4 7 _ by show _ = (w4.2.2.1 7 _).toInt; rw [g6.2.2.1 7 (by simp)]; rfl)⟩, rfl⟩)))))))))⟩
  · rw [show (20 : Int32) = I 20 from rfl]
    refine need_T h2 (by omega) (fun w2 gw2 => ⟨g1.tr gw2, rfl⟩) (fun e20 h3 => ?_)
    have g3 : KPG v (wi v 665 ((p + 1 + 1 : Nat) : Int)) := KPG_at
    have o3 : OLDc v (wi v 665 ((p + 1 + 1 : Nat) : Int)) n s := OLDc.row rfl
    generalize wi v 665 ((p + 1 + 1 : Nat) : Int) = w1 at h3 g3 o3
    refine place_B h3 (fun w2 g4 o4 h4 => ?_)
    have gu2 : KPG u w2 := g1.tr (g3.tr g4)
    have ou2 : OLDc u w2 n s := OLDc.tr o1 (OLDc.tr o3 o4 (Nat.le_refl _)) (Nat.le_refl _)
    refine ok_T (ok_mono (hr w2 c (p + 1 + 1) n (q + 1) s h4) (fun w5 r hw5 => ?_))
    obtain ⟨g5, hw5⟩ := hw5
    cases r with
    | inr k => exact ⟨gu2.tr g5, hw5⟩
    | inl x2 =>
      obtain ⟨mp, p5, n5, q5, rfl, ol5, hv5, hp5, hlo, k, hk6, em⟩ := hw5
      have oh := OR_hdK (Pw_bdK w5) em
      have eq : q + 1 = q5 := ORqK (fun _ _ _ _ _ _ _ h => PAqK h) em
      subst eq
      refine ok_T (ok_mono (ht w5 c p5 n5 (q + 1) s p k mp (p + 1 + 1) (p5 - 1) n hv5 (by omega) (by omega) em) (fun w6 r hw6 => ?_))
      obtain ⟨g6, hw6⟩ := hw6
      cases r with
      | inr k => exact ⟨gu2.tr (g5.tr g6), hw6⟩
      | inl x2 =>
        obtain ⟨m2, p7, n7, q7, rfl, ol7, hv7, hp7, e1, e2, e3, e4, e5, e6, e7, -⟩ := hw6
        rw [show (11 : Int32) = I 11 from rfl]
        refine need_T hv7 (by omega) (fun w2 gw2 => ⟨gu2.tr (g5.tr (g6.tr gw2)), rfl⟩) (fun e11 h8 => ?_)
        have g8 : KPG w6 (wi w6 665 ((p7 + 1 : Nat) : Int)) := KPG_at
        have o8 : OLDc w6 (wi w6 665 ((p7 + 1 : Nat) : Int)) n7 s := OLDc.row rfl
        generalize wi w6 665 ((p7 + 1 : Nat) : Int) = w7 at h8 g8 o8
        have n7b : n7 ≤ 8000 := by have := hv7.2.2.1.2; have := hv7.2.1.2; omega
        have p8c := h8.2.1.2
        have qr : RG (if q < 400 then ((q : Nat) : Int) else 0) := by
          constructor <;> split <;> omega
        rw [show (12 : Int32) = I 12 from rfl]
        refine add_B h8 (by omega) ⟨by decide, by decide⟩ ⟨by omega, by omega⟩ qr ⟨by omega, by omega⟩ ⟨by omega, by omega⟩ (fun w9 g9 o9 h9 fa => ok_some.mpr ?_)
        obtain ⟨f1, f2, f3, f4, f5, f6⟩ := fa
        have g69 : KPG w6 w9 := g8.tr g9
        have o69 : OLDc w6 w9 n7 s := OLDc.tr o8 o9 (Nat.le_refl _)
        refine ⟨gu2.tr (g5.tr (g6.tr g69)), n7 + 1, p7 + 1, n7 + 1, q7, rfl, OLDc.tr ou2 (OLDc.tr ol5 (OLDc.tr ol7 o69 (by omega)) (by omega)) (Nat.le_refl _), h9, by omega, ?_, f6⟩
        show XPcK w9 (4 * (26 - o)) o 0 _ _ _ _ _ _ _
        rw [f_o ho]
        refine ⟨⟨⟨by omega, by omega⟩, by omega, by omega, by omega, by omega⟩, ⟨p, f2, by omega, by omega⟩, ho, Or.inr (Or.inr (Or.inr (Or.inr (Or.inr (Or.inr (Or.inr (Or.inr (Or.inl ⟨f1, k, m2, p5 - 1, n7, f2, f3, f4, by rw [show p7 + 1 - 1 = p7 by omega]; exact f5, hk6, by omega, ?_, by omega, (gu2.tr (g5.tr (g6.tr g69))).a6.trans hk, (g3.tr (g4.tr (g5.tr (g6.tr g69)))).a6.trans e20, (g6.tr g69).a6.trans hlo.2, by rw [show p7 + 1 - 1 = p7 by omega]; exact g69.a6.trans e11⟩))))))))⟩
        rw [show p7 + 1 - 1 = p7 by omega, show p5 - 1 + 1 = p5 by omega]
        exact PRT_kK (PXK ho w6 w9) (BXK ho w6 w9) (GXK w6 w9) (Pw_bdK w6) (Bw_bdK w6) (Gw_bdK w6) e1 (KN_old g69 o69 (Nat.le_refl _))
end
end
section
set_option maxRecDepth 100000
section
variable {u v w : MS} {N c p n q o s p2 n2 q2 m a b l lo hi r d most f t x q0 z : Nat}
theorem atomOrCall_okcK {S : SF_Pa_matched} (ho : o ≤ 25)
    (hr : ∀ u c p n q s, PSI u c p n q o s → OK (fun w r => NDQ (fun w m lo hi a b q r => (lo + 1 ≤ hi ∧ A w 6 (hi - 1) = 21) ∧ ∃ k, k ≤ 6 ∧ ORcK w 1 26 (GwK o w) k m lo (hi - 1) a b q r) u c p n q o s w r) (S.2.2.2.2.2.2.2.2.2.2.2.2.2.2.2.2.2.2.2 u 0 (I ((6 : Nat) : Int)) (I 21)))
    (h : PSI u c p n q o s) (hk : A u 6 p = 2) (hN : 10000 ≤ N) : OK (fun w r => NDQ (fun w m lo hi a b q r => UwK 0 o w m lo hi a b q r ∧ A w 21 m = 0) u c p n q o s w r) (hm_Pa_atomOrCall N S u) := by
  have hc := h.1.1
  have h2p := h.2.2.1.2
  unfold hm_Pa_atomOrCall hb_Pa_atomOrCall_0
  rw [show u.1 665 = I ((p : Nat) : Int) by rw [I_F (k := 665), h.2.1.1]]
  refine leaf_B h (by omega) (fun v g1 o1 h2 lf m0 a6 => ?_)
  have p2c := h2.2.1.2
  refine look_T h2 (fun w gw => ⟨g1.tr gw, rfl⟩) (fun h45 => ?_)
  rw [show (20 : Int32) = I 20 from rfl]
  refine k_eq (A_r v 6 (p + 1)) ⟨by decide, by decide⟩ (fun e => ok_lt.mpr ?_) (fun ne => ok_some.mpr ?_)
  · obtain ⟨hlt2, h3⟩ := PSI_at h2 (by omega)
    rw [inc_e h2]
    have g3 : KPG v (wi v 665 ((p + 1 + 1 : Nat) : Int)) := KPG_at
    have o3 : OLDc v (wi v 665 ((p + 1 + 1 : Nat) : Int)) (n + 1) s := OLDc.row rfl
    generalize wi v 665 ((p + 1 + 1 : Nat) : Int) = w1 at h3 g3 o3
    refine ok_T (ok_mono (hr w1 c (p + 1 + 1) (n + 1) q s h3) (fun w5 r hw5 => ?_))
    obtain ⟨g5, hw5⟩ := hw5
    cases r with
    | inr k => exact ⟨g1.tr (g3.tr g5), hw5⟩
    | inl x2 =>
      obtain ⟨mp, p5, n5, q5, rfl, ol5, hv5, hp5, hlo, k, hk6, em⟩ := hw5
      have oh := OR_hdK (Gw_bdK w5) em
      have n5b : n5 ≤ 8000 := by have := hv5.2.2.1.2; have := hv5.2.1.2; omega
      have p5c := hv5.2.1.2
      have mb : mp ≤ 8015 := by
        rcases em with ⟨-, h, -⟩ | ⟨-, h⟩
        · omega
        · have := (RW_hdK (Gw_bdK w5) h).1.1; omega
      refine e_in ⟨by omega, by omega⟩ (by decide) ?_
      rw [len_okK (Gw_bdK w5) hN (by omega) em, bnd_so, tnI (n := p) rfl (by omega), I_A (k := 7), show (14 : Int32) = I 14 from rfl]
      refine add_B hv5 (by omega) ⟨by decide, by decide⟩ ⟨by omega, by omega⟩ (A_r w5 7 p) ⟨by omega, by omega⟩ ⟨by omega, by omega⟩ (fun w6 g6 o6 h6 fa => ok_some.mpr ?_)
      obtain ⟨f1, f2, f3, f4, f5, f6⟩ := fa
      refine ⟨g1.tr (g3.tr (g5.tr g6)), n5 + 1, p5, n5 + 1, q5, rfl, OLDc.tr o1 (OLDc.tr o3 (OLDc.tr ol5 o6 (by omega)) (Nat.le_refl _)) (by omega), h6, by omega, ?_, f6⟩
      show XPcK w6 (4 * (26 - o)) o 0 _ _ _ _ _ _ _
      rw [f_o ho]
      exact ⟨⟨⟨by omega, by omega⟩, by omega, by omega, by omega, by omega⟩, ⟨p, f2, by omega, by omega⟩, ho, Or.inr (Or.inr (Or.inr (Or.inr (Or.inr (Or.inr (Or.inr (Or.inr (Or.inr (Or.inr (Or.inl ⟨f1, f2, k, mp, n + 1, n5, f4, f5, hk6, by omega, OR_kK (GXK w5 w6) (Gw_bdK w5) em (KN_old g6 o6 (Nat.le_refl _)), by omega, (g1.tr (g3.tr (g5.tr g6))).a6.trans hk, (g3.tr (g5.tr g6)).a6.trans e, g6.a6.trans hlo.2, f3.trans (show A w5 7 p = A w6 7 p by show _ = (w6.2.2.1 7 _).toInt; rw [g6.2.2.1 7 (by simp)]; rfl)⟩))))))))))⟩
  · refine ⟨g1, n + 1, p + 1, n + 1, q, rfl, o1, h2, by omega, ?_, m0⟩
    show XPcK v (4 * (26 - o)) o 0 _ _ _ _ _ _ _
    rw [f_o ho]
    exact ⟨⟨⟨by omega, by omega⟩, by omega, by omega, by omega, by omega⟩, ⟨p, lf.2.2.1, by omega, by omega⟩, ho, Or.inl ⟨lf, ⟨rfl, fun _ => ne⟩, rfl⟩⟩
theorem applied_okcK {S : SF_Pa_matched} (ho : o ≤ 25)
    (hr : ∀ u c p n q s, PSI u c p n q o s → OK (fun w r => NDQ (fun w m lo hi a b q r => (lo + 1 ≤ hi ∧ A w 6 (hi - 1) = 21) ∧ ∃ k, k ≤ 6 ∧ ORcK w 1 26 (GwK o w) k m lo (hi - 1) a b q r) u c p n q o s w r) (S.2.2.2.2.2.2.2.2.2.2.2.2.2.2.2.2.2.2.2 u 0 (I ((6 : Nat) : Int)) (I 21)))
    (h : PSI u c p n q o s) (hx : UwK 0 o u x lo p a n q0 q) (x0 : A u 21 x = 0) (ha2 : a ≤ 2 * lo) (hN : 10000 ≤ N) : OK (fun w r => NDQ (fun w m _ hi _ b _ r => UwK 1 o w m lo hi a b q0 r ∧ A w 21 m = 0) u c p n q o s w r) (hm_Pa_applied N S u (I ((x : Nat) : Int))) := by
  have hc := h.1.1
  have h2p := h.2.2.1.2
  have hd := Uw_bdK u _ _ _ _ _ _ _ hx
  have tkx : TKc u x lo p := by
    have hx2 : XPcK u (4 * (26 - o)) o 0 x lo p a n q0 q := hx
    rw [f_o ho] at hx2
    exact hx2.2.1
  obtain ⟨tx, etx, tx1, tx2⟩ := tkx
  have txl : tx = lo := by
    have := XP_17 hx rfl
    omega
  unfold HDc at hd
  have n8 : n ≤ 8000 := by have := h.2.1.2; omega
  have gen : ∀ (M k j first l pp nn qq : Nat) (v : MS), KPG u v → OLDc u v n s → PSI v c pp nn qq o s → (A v 16 (n + 1) = 15 ∧ A v 17 (n + 1) = ((tx : Nat) : Int) ∧ A v 18 (n + 1) = ((x : Nat) : Int) ∧ A v 21 (n + 1) = 0) → ((k = 0 ∧ l = 0 ∧ pp = p ∧ nn = n + 1 ∧ qq = q ∧ A v 6 pp = 20) ∨ (1 ≤ k ∧ A v 19 (n + 1) = ((first : Nat) : Int) ∧ RPcK v 0 0 (AGcK v (GwK o v)) k first l p pp (n + 1) nn q qq ∧ A v 21 l = 0)) → j + p ≤ pp → 4001 < M + pp → OK (fun w r => NDQ (fun w m _ hi _ b _ r => UwK 1 o w m lo hi a b q0 r ∧ A w 21 m = 0) u c p n q o s w r) (hg_Pa_applied N S M v (I ((n + 1 : Nat) : Int)) (I ((l : Nat) : Int)) (I ((j : Nat) : Int))) := by
    intro M
    induction M with
    | zero =>
      intro k j first l pp nn qq v _ _ hv
      have := hv.2.1.2
      omega
    | succ M ih =>
      intro k j first l pp nn qq v g ol hv nf hk hj hM
      have ppc := hv.2.1.2
      show OK _ (hb_Pa_applied_38 N S (hg_Pa_applied N S M) v (I ((n + 1 : Nat) : Int)) (I ((l : Nat) : Int)) (I ((j : Nat) : Int)))
      unfold hb_Pa_applied_38 hb_Pa_applied_145
      have hpos : n + 1 ≤ nn ∧ p ≤ pp ∧ l ≤ nn ∧ nn + 2 * p ≤ n + 1 + 2 * pp ∧ q ≤ qq ∧ 5 * qq + p ≤ 5 * q + pp := by
        rcases hk with hk | ⟨h1, h2, h3, h4⟩
        · omega
        · have := RP_hdK AG_bdK h3; omega
      have done : (k = 0 → False) → NDQ (fun w m _ hi _ b _ r => UwK 1 o w m lo hi a b q0 r ∧ A w 21 m = 0) u c p n q o s v (.inl (I ((n + 1 : Nat) : Int))) := fun hk0 => by
        rcases hk with ⟨h1, -⟩ | ⟨h1, h2, h3, h4⟩
        · exact absurd h1 (fun z => hk0 z)
        · have rh := RP_hdK AG_bdK h3
          refine ⟨g, n + 1, pp, nn, qq, rfl, ol, hv, by omega, ?_, nf.2.2.2⟩
          refine ⟨⟨⟨by omega, by omega⟩, by omega, by omega, by omega, by omega⟩, ⟨tx, nf.2.1, by omega, by omega⟩, ho, Or.inr (Or.inr (Or.inr (Or.inr (Or.inr (Or.inr (Or.inr (Or.inr (Or.inr (Or.inr (Or.inr (Or.inl ⟨nf.1, Nat.le_refl _, x, p, n, q, k, first, nf.2.2.1, Uw_stK u v _ _ _ _ _ _ _ hx (KN_old g ol (Nat.le_refl _)), ⟨by omega, by rw [nf.2.1, txl]⟩, h2, ?_⟩)))))))))))⟩
          have rw1 := RW_ofK AG_bdK h3 h4
          exact RW_kK (AG_kK (XP_kK (by omega) (Nat.le_refl _)) (Gw_bdK v)) AG_bdK rw1 (KN_old KPG.rf (OLDc.rf (n := nn) (s := 0)) (Nat.le_refl _))
      rw [show (4000 : Int32) = I 4000 from rfl]
      refine k_le ⟨by decide, by decide⟩ ⟨by omega, by omega⟩ (fun z => ok_some.mpr (done (fun k0 => ?_))) (fun hlt => look_T hv (fun w gw => ⟨g.tr gw, rfl⟩) (fun h45 => ?_))
      · rcases hk with ⟨-, -, hk, -⟩ | ⟨hk, -⟩
        · omega
        · omega
      rw [show (20 : Int32) = I 20 from rfl]
      refine k_eq (A_r v 6 pp) ⟨by decide, by decide⟩ (fun e20 => ok_lt.mpr ?_) (fun ne => ok_some.mpr (done (fun k0 => ?_)))
      rotate_left
      · rcases hk with ⟨-, -, -, -, -, hk⟩ | ⟨hk, -⟩
        · exact ne hk
        · omega
      obtain ⟨hlt2, hv2⟩ := PSI_at hv ⟨by omega, by omega⟩
      rw [inc_e hv, show v.1 665 = I ((pp : Nat) : Int) by rw [I_F (k := 665), hv.2.1.1]]
      have g2 : KPG v (wi v 665 ((pp + 1 : Nat) : Int)) := KPG_at
      have o2 : OLDc v (wi v 665 ((pp + 1 : Nat) : Int)) nn s := OLDc.row rfl
      generalize wi v 665 ((pp + 1 : Nat) : Int) = v2 at hv2 g2 o2
      refine ok_T (ok_mono (hr v2 c (pp + 1) nn qq s hv2) (fun w r hw => ?_))
      obtain ⟨gw, hw⟩ := hw
      cases r with
      | inr k => exact ⟨g.tr (g2.tr gw), hw⟩
      | inl x2 =>
        obtain ⟨mp, p5, n5, q5, rfl, ol5, hv5, hp5, hlo, ka, hk6, em⟩ := hw
        have oh := OR_hdK (Gw_bdK w) em
        have n5b : n5 ≤ 8000 := by have := hv5.2.2.1.2; have := hv5.2.1.2; omega
        have p5c := hv5.2.1.2
        have mb : mp ≤ 8015 := by
          rcases em with ⟨-, h, -⟩ | ⟨-, h⟩
          · omega
          · have := (RW_hdK (Gw_bdK w) h).1.1; omega
        show OK _ (bnd (hm_Tr_length N w (I ((mp : Nat) : Int))) _)
        rw [len_okK (Gw_bdK w) hN (by omega) em, bnd_so, show (16 : Int32) = I 16 from rfl, lit0q]
        refine add_B hv5 (by omega) ⟨by decide, by decide⟩ ⟨by omega, by omega⟩ ⟨by omega, by omega⟩ ⟨by omega, by omega⟩ ⟨by decide, by decide⟩ (fun w6 g6 o6 h6 fa => ?_)
        obtain ⟨f1, f2, f3, f4, f5, f6⟩ := fa
        have gv6 : KPG v w6 := g2.tr (gw.tr g6)
        have ov6 : OLDc v w6 nn s := OLDc.tr o2 (OLDc.tr ol5 o6 (by omega)) (Nat.le_refl _)
        have ag : AGcK w6 (GwK o w6) (n5 + 1) pp p5 nn (n5 + 1) qq q5 := ⟨⟨⟨by omega, by omega⟩, by omega, by omega, by omega, by omega⟩, f1, ka, mp, n5, f3, f4, ⟨hk6, gv6.a6.trans e20, g6.a6.trans hlo.2⟩, OR_kK (Gw_stK w w6) (Gw_bdK w) em (KN_old g6 o6 (Nat.le_refl _)), by omega⟩
        have hd1 := (ov6.1 (n + 1) (by omega))
        have hj1 : I ((j : Nat) : Int) + 1 = I ((j + 1 : Nat) : Int) := by rw [lit1q, I_add, show ((j : Nat) : Int) + 1 = ((j + 1 : Nat) : Int) by omega]
        unfold hb_Pa_applied_136
        rw [hj1]
        rcases hk with ⟨h1, h2, h3, h4, h5, -⟩ | ⟨h1, h2, h3, h4⟩
        · subst h2
          refine ok_br.mpr ⟨fun _ => ?_, fun z => absurd z (by decide)⟩
          refine e_in ⟨by omega, by omega⟩ (by decide) (ok_lt.mpr ?_)
          rw [tnI (n := n + 1) rfl (by omega), wa_e]
          have a19 : ∀ k, k ≠ n + 1 → A (wa w6 19 (n + 1) ((n5 + 1 : Nat) : Int)) 19 k = A w6 19 k := fun k hk => wa_ne hk
          have aO : ∀ r k, r ≠ 19 → A (wa w6 19 (n + 1) ((n5 + 1 : Nat) : Int)) r k = A w6 r k := fun r k hr => wa_rne hr
          have a19d : A (wa w6 19 (n + 1) ((n5 + 1 : Nat) : Int)) 19 (n + 1) = ((n5 + 1 : Nat) : Int) := wa_eq ⟨by omega, by omega⟩
          have g7 : KPG w6 (wa w6 19 (n + 1) ((n5 + 1 : Nat) : Int)) := FR.wa FR.rf (by simp)
          have h7 : PSI (wa w6 19 (n + 1) ((n5 + 1 : Nat) : Int)) c p5 (n5 + 1) q5 o s := ⟨TKK_g g7 h6.1, h6.2⟩
          generalize wa w6 19 (n + 1) ((n5 + 1 : Nat) : Int) = w7 at a19 aO a19d g7 h7
          have kn : KNc w6 w7 nn (n5 + 1) (n5 + 1) := ⟨⟨g7.2.2.1 6 (by simp), g7.2.2.1 7 (by simp)⟩, fun k k1 k2 => ⟨⟨aO _ _ (by decide), aO _ _ (by decide), aO _ _ (by decide), a19 k (by omega), aO _ _ (by decide)⟩, fun _ => aO _ _ (by decide)⟩⟩
          have ol7 : OLDc u w7 n s := by
            have o8 := OLDc.tr ol ov6 (by omega)
            refine ⟨fun k hk => ?_, fun i hi => by rw [aO _ _ (by decide)]; exact o8.2 i hi⟩
            obtain ⟨b1, b2, b3, b4, b5, b6⟩ := o8.1 k hk
            exact ⟨by rw [aO _ _ (by decide)]; exact b1, by rw [aO _ _ (by decide)]; exact b2, by rw [aO _ _ (by decide)]; exact b3, by rw [a19 k (by omega)]; exact b4, by rw [aO _ _ (by decide)]; exact b5, by rw [aO _ _ (by decide)]; exact b6⟩
          refine ih 1 (j + 1) (n5 + 1) (n5 + 1) p5 (n5 + 1) q5 w7 (g.tr (gv6.tr g7)) ol7 h7 ⟨by rw [aO _ _ (by decide), hd1.1]; exact nf.1, by rw [aO _ _ (by decide), hd1.2.1]; exact nf.2.1, by rw [aO _ _ (by decide), hd1.2.2.1]; exact nf.2.2.1, by rw [aO _ _ (by decide), hd1.2.2.2.2.2]; exact nf.2.2.2⟩ (Or.inr ⟨Nat.le_refl _, a19d, Or.inl ⟨rfl, rfl, ?_⟩, by rw [aO _ _ (by decide)]; exact f6⟩) (by omega) (by omega)
          have := AG_kK (Gw_stK w6 w7) (Gw_bdK w6) _ _ _ _ _ _ _ ag kn
          rw [h4, h3, h5] at this
          exact this
        · have rh := RP_hdK AG_bdK h3
          refine ok_br.mpr ⟨fun z => ?_, fun _ => ?_⟩
          · exfalso
            have := (I_eq (x := ((l : Nat) : Int)) (y := 0) (by omega) (by omega) (by decide) (by decide)).mp (show I ((l : Nat) : Int) = I 0 from of_decide_eq_true z)
            omega
          refine e_in ⟨by omega, by omega⟩ (by decide) (ok_lt.mpr ?_)
          rw [tnI (n := l) rfl (by omega), wa_e]
          have a21 : ∀ k, k ≠ l → A (wa w6 21 l ((n5 + 1 : Nat) : Int)) 21 k = A w6 21 k := fun k hk => wa_ne hk
          have aO : ∀ r k, r ≠ 21 → A (wa w6 21 l ((n5 + 1 : Nat) : Int)) r k = A w6 r k := fun r k hr => wa_rne hr
          have a21l : A (wa w6 21 l ((n5 + 1 : Nat) : Int)) 21 l = ((n5 + 1 : Nat) : Int) := wa_eq ⟨by omega, by omega⟩
          have g7 : KPG w6 (wa w6 21 l ((n5 + 1 : Nat) : Int)) := FR.wa FR.rf (by simp)
          have h7 : PSI (wa w6 21 l ((n5 + 1 : Nat) : Int)) c p5 (n5 + 1) q5 o s := ⟨TKK_g g7 h6.1, h6.2⟩
          generalize wa w6 21 l ((n5 + 1 : Nat) : Int) = w7 at a21 aO a21l g7 h7
          have kn : KNc w6 w7 nn (n5 + 1) (n5 + 1) := ⟨⟨g7.2.2.1 6 (by simp), g7.2.2.1 7 (by simp)⟩, fun k k1 k2 => ⟨⟨aO _ _ (by decide), aO _ _ (by decide), aO _ _ (by decide), aO _ _ (by decide), aO _ _ (by decide)⟩, fun _ => a21 k (by omega)⟩⟩
          have kv : KNc v w7 (n + 1) nn l := ⟨⟨(g7.2.2.1 6 (by simp)).trans (gv6.2.2.1 6 (by simp)), (g7.2.2.1 7 (by simp)).trans (gv6.2.2.1 7 (by simp))⟩, fun k k1 k2 => by
            obtain ⟨b1, b2, b3, b4, b5, b6⟩ := ov6.1 k k2
            exact ⟨⟨by rw [aO _ _ (by decide)]; exact b1, by rw [aO _ _ (by decide)]; exact b2, by rw [aO _ _ (by decide)]; exact b3, by rw [aO _ _ (by decide)]; exact b4, by rw [aO _ _ (by decide)]; exact b5⟩, fun k3 => by rw [a21 k k3]; exact b6⟩⟩
          have ol7 : OLDc u w7 n s := by
            have o8 := OLDc.tr ol ov6 (by omega)
            refine ⟨fun k hk => ?_, fun i hi => by rw [aO _ _ (by decide)]; exact o8.2 i hi⟩
            obtain ⟨b1, b2, b3, b4, b5, b6⟩ := o8.1 k hk
            exact ⟨by rw [aO _ _ (by decide)]; exact b1, by rw [aO _ _ (by decide)]; exact b2, by rw [aO _ _ (by decide)]; exact b3, by rw [aO _ _ (by decide)]; exact b4, by rw [aO _ _ (by decide)]; exact b5, by rw [a21 k (by omega)]; exact b6⟩
          have rp7 := RP_kK (AG_kK (Gw_stK v w7) (Gw_bdK v)) AG_bdK h3 kv
          have ag7 := AG_kK (Gw_stK w6 w7) (Gw_bdK w6) _ _ _ _ _ _ _ ag kn
          exact ih (k + 1) (j + 1) first (n5 + 1) p5 (n5 + 1) q5 w7 (g.tr (gv6.tr g7)) ol7 h7 ⟨by rw [aO _ _ (by decide), hd1.1]; exact nf.1, by rw [aO _ _ (by decide), hd1.2.1]; exact nf.2.1, by rw [aO _ _ (by decide), hd1.2.2.1]; exact nf.2.2.1, by rw [a21 _ (by omega), hd1.2.2.2.2.2]; exact nf.2.2.2⟩ (Or.inr ⟨by omega, by rw [aO _ _ (by decide), hd1.2.2.2.1]; exact h2, Or.inr ⟨h1, l, pp, nn, qq, rp7, ⟨a21l, fun z => absurd z (by decide)⟩, ag7⟩, by rw [a21 _ (by omega)]; exact f6⟩) (by omega) (by omega)
  unfold hm_Pa_applied hb_Pa_applied_0
  refine look_T h (fun w gw => ⟨gw, rfl⟩) (fun h45 => ?_)
  rw [show (20 : Int32) = I 20 from rfl]
  refine k_eq (A_r u 6 p) ⟨by decide, by decide⟩ (fun e20 => ?_) (fun _ => ok_some.mpr ⟨KPG.rf, x, p, n, q, rfl, OLDc.rf, h, Nat.le_refl _, XP_kK (by omega) (by omega) _ _ _ _ _ _ _ hx (KN_old KPG.rf (OLDc.rf (n := n) (s := 0)) (Nat.le_refl _)), x0⟩)
  refine e_in ⟨by omega, by omega⟩ (by decide) ?_
  rw [tnI (n := x) rfl (by omega), I_A (k := 17), etx, lit0q, show (15 : Int32) = I 15 from rfl]
  have pc := h.2.1.2
  refine add_B h (by omega) ⟨by decide, by decide⟩ ⟨by omega, by omega⟩ ⟨by omega, by omega⟩ ⟨by decide, by decide⟩ ⟨by decide, by decide⟩ (fun w6 g6 o6 h6 fa => ?_)
  obtain ⟨f1, f2, f3, f4, f5, f6⟩ := fa
  exact gen N 0 0 0 0 p (n + 1) q w6 g6 o6 h6 ⟨f1, f2, f3, f6⟩ (Or.inl ⟨rfl, rfl, rfl, rfl, rfl, by rw [g6.a6]; exact e20⟩) (by omega) (by omega)
theorem unit_okcK {S : SF_Pa_matched} (ho : o ≤ 25)
    (hu : o < 25 → ∀ u c p n q s, PSI u c p n q (o + 1) s → OK (fun w r => NDQ (fun w m lo hi a b q r => UwK 1 (o + 1) w m lo hi a b q r ∧ A w 21 m = 0) u c p n q (o + 1) s w r) (S.2.2.2.2.2.2.2.2.2.2.2.2.1 u))
    (hp : ∀ u c p n q s, PSI u c p n q o s → OK (fun w r => NDQ (fun w m lo hi a b q r => UwK 0 o w m lo hi a b q r ∧ A w 21 m = 0) u c p n q o s w r) (S.2.2.2.2.2.2.2.2.2.2.2.1 u))
    (ha : ∀ u c p n q s x lo a q0, PSI u c p n q o s → UwK 0 o u x lo p a n q0 q → A u 21 x = 0 → a ≤ 2 * lo → OK (fun w r => NDQ (fun w m _ hi _ b _ r => UwK 1 o w m lo hi a b q0 r ∧ A w 21 m = 0) u c p n q o s w r) (S.2.1 u (I ((x : Nat) : Int))))
    (h : PSI u c p n q o s) : OK (fun w r => NDQ (fun w m lo hi a b q r => UwK 1 o w m lo hi a b q r ∧ A w 21 m = 0) u c p n q o s w r) (hm_Pa_unit N S u) := by
  have hc := h.1.1
  have h2p := h.2.2.1.2
  have e26 : ∀ v1 : Int32, A u 6 p ≠ 0 ∧ A u 6 p ≠ 45 → (v1 = 34 ∧ A u 6 p = 34) ∨ (v1 = 14 ∧ A u 6 p = 14) → OK (fun w r => NDQ (fun w m lo hi a b q r => UwK 1 o w m lo hi a b q r ∧ A w 21 m = 0) u c p n q o s w r) (hb_Pa_unit_26 N S () u v1) := fun v1 hk hv => by
    unfold hb_Pa_unit_26
    obtain ⟨hpc, h2⟩ := PSI_at h hk
    refine ok_lt.mpr ?_
    rw [inc_e h, show u.1 665 = I ((p : Nat) : Int) by rw [I_F (k := 665), h.2.1.1]]
    have g1 : KPG u (wi u 665 ((p + 1 : Nat) : Int)) := KPG_at
    have o1 : OLDc u (wi u 665 ((p + 1 : Nat) : Int)) n s := OLDc.row rfl
    generalize wi u 665 ((p + 1 : Nat) : Int) = v at h2 g1 o1
    refine look_T h2 (fun w gw => ⟨g1.tr gw, rfl⟩) (fun h45 => ?_)
    obtain ⟨r6, e6⟩ := begU (N := N) (u := v) (tk_rng h2.1 h2.2.1.2)
    rw [e6, bnd_so]
    refine opens_T h2 (fun w gw => ⟨g1.tr gw, rfl⟩) (fun _ ho25 h3 => ?_)
    have g3 : KPG v (wi v 666 ((o + 1 : Nat) : Int)) := KPG_op
    have o3 : OLDc v (wi v 666 ((o + 1 : Nat) : Int)) n s := OLDc.row rfl
    generalize wi v 666 ((o + 1 : Nat) : Int) = w1 at h3 g3 o3
    have e69 : ∀ K : Int, ((K = 17 ∧ A u 6 p = 34) ∨ (K = 18 ∧ A u 6 p = 14)) → OK (fun w r => NDQ (fun w m lo hi a b q r => UwK 1 o w m lo hi a b q r ∧ A w 21 m = 0) u c p n q o s w r) (hb_Pa_unit_69 N S () w1 (I ((p : Nat) : Int)) (I K)) := fun K hK => by
      unfold hb_Pa_unit_69
      refine ok_T (ok_mono (hu ho25 w1 c (p + 1) n q s h3) (fun w5 r hw5 => ?_))
      obtain ⟨g5, hw5⟩ := hw5
      cases r with
      | inr k => exact ⟨g1.tr (g3.tr g5), hw5⟩
      | inl x2 =>
        obtain ⟨m, p5, n5, q5, rfl, ol5, hv5, hp5, em, -⟩ := hw5
        have hd := Uw_bdK w5 _ _ _ _ _ _ _ em
        unfold HDc at hd
        have n5b : n5 ≤ 8000 := by have := hv5.2.2.1.2; have := hv5.2.1.2; omega
        have p5c := hv5.2.1.2
        rw [lit0q]
        refine add_B hv5 (by omega) ⟨by omega, by omega⟩ ⟨by omega, by omega⟩ ⟨by omega, by omega⟩ ⟨by decide, by decide⟩ ⟨by decide, by decide⟩ (fun w6 g6 o6 h6 fa => ok_lt.mpr (ok_some.mpr ?_))
        obtain ⟨f1, f2, f3, f4, f5, f6⟩ := fa
        obtain ⟨e, h7⟩ := close_e h6
        rw [e]
        have g7 : KPG w6 (wi w6 666 ((o : Nat) : Int)) := KPG_op
        have o7 : OLDc w6 (wi w6 666 ((o : Nat) : Int)) (n5 + 1) s := OLDc.row rfl
        refine ⟨g1.tr (g3.tr (g5.tr (g6.tr g7))), n5 + 1, p5, n5 + 1, q5, rfl, OLDc.tr o1 (OLDc.tr o3 (OLDc.tr ol5 (OLDc.tr o6 o7 (by omega)) (by omega)) (Nat.le_refl _)) (Nat.le_refl _), h7, by omega, ?_, f6⟩
        have fK : A (wi w6 666 ((o : Nat) : Int)) 16 (n5 + 1) = 17 ∨ A (wi w6 666 ((o : Nat) : Int)) 16 (n5 + 1) = 18 := by
          rcases hK with ⟨rfl, -⟩ | ⟨rfl, -⟩
          · exact Or.inl f1
          · exact Or.inr f1
        have kk : (A (wi w6 666 ((o : Nat) : Int)) 16 (n5 + 1) = 17 → A (wi w6 666 ((o : Nat) : Int)) 6 p = 34) ∧ (A (wi w6 666 ((o : Nat) : Int)) 16 (n5 + 1) = 18 → A (wi w6 666 ((o : Nat) : Int)) 6 p = 14) := by
          rw [(g1.tr (g3.tr (g5.tr (g6.tr g7)))).a6]
          have f1' : A (wi w6 666 ((o : Nat) : Int)) 16 (n5 + 1) = K := f1
          rw [f1']
          omega
        exact ⟨⟨⟨by omega, by omega⟩, by omega, by omega, by omega, by omega⟩, ⟨p, f2, by omega, by omega⟩, ho, Or.inr (Or.inr (Or.inr (Or.inr (Or.inr (Or.inr (Or.inr (Or.inr (Or.inr (Or.inr (Or.inr (Or.inr (Or.inl ⟨fK, Nat.le_refl _, m, n5, f3, XP_kK (by omega) (Nat.le_refl _) _ _ _ _ _ _ _ em (KN_old (g6.tr g7) (OLDc.tr o6 o7 (by omega)) (Nat.le_refl _)), by omega, kk⟩))))))))))))⟩
    exact ok_br.mpr ⟨fun z => e69 17 (Or.inl ⟨rfl, by
      rcases hv with ⟨-, e⟩ | ⟨rfl, -⟩
      · exact e
      · exact absurd z (by decide)⟩), fun z => e69 18 (Or.inr ⟨rfl, by
      rcases hv with ⟨rfl, -⟩ | ⟨-, e⟩
      · exact absurd z (by decide)
      · exact e⟩)⟩
  unfold hm_Pa_unit hb_Pa_unit_0
  refine look_T h (fun w gw => ⟨gw, rfl⟩) (fun h45 => ?_)
  rw [show (34 : Int32) = I 34 from rfl, show (14 : Int32) = I 14 from rfl]
  refine k_eq (A_r u 6 p) ⟨by decide, by decide⟩ (fun e => e26 _ (by omega) (Or.inl ⟨by rw [e]; rfl, e⟩)) (fun _ => k_eq (A_r u 6 p) ⟨by decide, by decide⟩ (fun e => e26 _ (by omega) (Or.inr ⟨by rw [e]; rfl, e⟩)) (fun _ => ?_))
  refine ok_T (ok_mono (hp u c p n q s h) (fun w5 r hw5 => ?_))
  obtain ⟨g5, hw5⟩ := hw5
  cases r with
  | inr k => exact ⟨g5, hw5⟩
  | inl x2 =>
    obtain ⟨m, p5, n5, q5, rfl, ol5, hv5, hp5, em, m0⟩ := hw5
    have hd := (Uw_bdK w5 _ _ _ _ _ _ _ em).1
    refine ok_T (ok_mono (ha w5 c p5 n5 q5 s m p n q hv5 em m0 h2p) (fun w6 r hw6 => ?_))
    obtain ⟨g6, hw6⟩ := hw6
    cases r with
    | inr k => exact ⟨g5.tr g6, hw6⟩
    | inl x2 =>
      obtain ⟨m6, p6, n6, q6, rfl, ol6, hv6, hp6, em6, m60⟩ := hw6
      exact ok_some.mpr ⟨g5.tr g6, m6, p6, n6, q6, rfl, OLDc.tr ol5 ol6 (by omega), hv6, by omega, em6, m60⟩
end
end
section
set_option maxRecDepth 100000
def SGLk (u : MS) (base : Nat) : Nat → List Nat → Prop
  | 0 => fun S => S = []
  | m + 1 => fun S => ∃ (t : Nat) (S2 : List Nat), S = t :: S2 ∧ A u 34 (base + m) = ((t : Nat) : Int) ∧ SGLk u base m S2
section
variable {u v w : MS} {N c p n q o s p2 n2 q2 a b l lo hi r d most f t x q0 base : Nat}
theorem SGL_k : ∀ {m : Nat} {S : List Nat}, (∀ i, i < base + m → A w 34 i = A u 34 i) → SGLk u base m S → SGLk w base m S
  | 0, _, _, h => h
  | m + 1, S, he, h => by
    obtain ⟨t, S2, h1, h2, h3⟩ := h
    exact ⟨t, S2, h1, by rw [he _ (by omega)]; exact h2, SGL_k (fun i hi => he i (by omega)) h3⟩
def SGIK (u v : MS) (c p n q o s pp nn qq j l m mx z : Nat) (aa oo : Option Nat) (S : List Nat) (first : Nat) : Prop := KPG u v ∧ OLDc u v n s ∧ PSI v c pp nn qq o (s + m) ∧ SPcK v (UwK 1 o v) first p n q j l (pp + 1) nn qq S true ∧ (SGKc v s pp m mx z aa oo ∧ SGLk v s m S) ∧ A v 21 l = 0
theorem closeS_okK {rk first : Nat} (hN : 10000 ≤ N) (hrk : rk ≤ 6) : ∀ (M : Nat) (v : MS) (pp nn qq j l m mx z : Nat) (aa oo : Option Nat) (S : List Nat), SGIK u v c p n q o s pp nn qq j l m mx z aa oo S first → rnkc (A u 6 pp) = rk → nn + m + 1 + 2 * p ≤ n + 2 * pp → n ≤ 2 * p → m < M → OK (fun w r => KPG u w ∧ match r with
    | .inr k => k = 3
    | .inl x => ∃ nn2 j2 l2 m2 mx2 z2 aa2 oo2 S2, x = I ((l2 : Nat) : Int) ∧ SGIK u w c p n q o s pp nn2 qq j2 l2 m2 mx2 z2 aa2 oo2 S2 first ∧ nn2 + m2 = nn + m ∧ nn ≤ nn2 ∧ j ≤ j2 ∧ (m2 = 0 ∨ mx2 < rk ∨ (mx2 = 4 ∧ rk = 4))) (hg_Pa_closeSigns N M v (I ((s : Nat) : Int)) (I ((rk : Nat) : Int)) (I ((l : Nat) : Int))) := by
  intro M
  induction M with
  | zero => intro v pp nn qq j l m mx z aa oo S _ _ _ _ h; omega
  | succ M ih =>
    intro v pp nn qq j l m mx z aa oo S hs hrkp hcnt h2p hM
    have hs' := hs
    obtain ⟨g, ol, hv, sp, ⟨stk, sgl⟩, l0⟩ := hs
    have hc := hv.1.1
    have ppc := hv.2.1.2
    have smp := hv.2.2.2.2.2.2
    have sh := SP_hdK (Uw_bdK v) sp
    have hj1 : 1 ≤ j := by
      cases j with
      | zero => exact sp.elim
      | succ j => omega
    show OK _ (hb_Pa_closeSigns_3 N (hg_Pa_closeSigns N M) v (I ((s : Nat) : Int)) (I ((rk : Nat) : Int)) (I ((l : Nat) : Int)))
    unfold hb_Pa_closeSigns_3 hb_Pa_closeSigns_60
    rw [show v.1 664 = I ((s + m : Nat) : Int) by rw [I_F (k := 664), hv.2.2.2.2.2.1]]
    have stop : (m = 0 ∨ mx < rk ∨ (mx = 4 ∧ rk = 4)) → OK (fun w r => KPG u w ∧ match r with
      | .inr k => k = 3
      | .inl x => ∃ nn2 j2 l2 m2 mx2 z2 aa2 oo2 S2, x = I ((l2 : Nat) : Int) ∧ SGIK u w c p n q o s pp nn2 qq j2 l2 m2 mx2 z2 aa2 oo2 S2 first ∧ nn2 + m2 = nn + m ∧ nn ≤ nn2 ∧ j ≤ j2 ∧ (m2 = 0 ∨ mx2 < rk ∨ (mx2 = 4 ∧ rk = 4))) (some (v, (.inl (I ((l : Nat) : Int)) : Int32 ⊕ Nat))) := fun hh => ok_some.mpr ⟨g, nn, j, l, m, mx, z, aa, oo, S, rfl, hs', rfl, Nat.le_refl _, Nat.le_refl _, hh⟩
    refine k_le ⟨by omega, by omega⟩ ⟨by omega, by omega⟩ (fun hle => stop (Or.inl (by omega))) (fun hlt => ?_)
    cases m with
    | zero => omega
    | succ m =>
      obtain ⟨t, k, mx2, z2, aa2, oo2, ⟨t1, t2⟩, t3, t4, t5, t6, t7, t8⟩ := stk
      obtain ⟨t', S2, rfl, y1, sgl2⟩ := sgl
      have ett : t = t' := by rw [t1] at y1; omega
      subst ett
      rw [lit1q, I_sub, show ((s + (m + 1) : Nat) : Int) - 1 = ((s + m : Nat) : Int) by omega]
      refine e_in ⟨by omega, by omega⟩ (by decide) ?_
      rw [tnI (n := s + m) rfl (by omega), I_A (k := 34), t1]
      refine e_in ⟨by omega, by omega⟩ (by decide) ?_
      have hk45 : 0 ≤ k ∧ k ≤ 45 := by
        have := hv.1.2.2 t (by omega)
        omega
      rw [tnI (n := t) rfl (by omega), I_A (k := 6), t3, rank_e hk45, bnd_so, ← t4]
      have mx6 : mx ≤ 6 := by rw [t4]; exact rk_le k
      refine k_lt ⟨by omega, by omega⟩ ⟨by omega, by omega⟩ (fun hh => stop (Or.inr (Or.inl (by omega)))) (fun hge => ?_)
      have e79 : POPk v pp t → OK (fun w r => KPG u w ∧ match r with
        | .inr k => k = 3
        | .inl x => ∃ nn2 j2 l2 m2 mx2 z2 aa2 oo2 S2, x = I ((l2 : Nat) : Int) ∧ SGIK u w c p n q o s pp nn2 qq j2 l2 m2 mx2 z2 aa2 oo2 S2 first ∧ nn2 + m2 = nn + (m + 1) ∧ nn ≤ nn2 ∧ j ≤ j2 ∧ (m2 = 0 ∨ mx2 < rk ∨ (mx2 = 4 ∧ rk = 4))) (hb_Pa_closeSigns_79 N (hg_Pa_closeSigns N M) v (I ((s : Nat) : Int)) (I ((rk : Nat) : Int)) (I ((l : Nat) : Int)) (I ((t : Nat) : Int)) (I k)) := fun pop => by
        unfold hb_Pa_closeSigns_79
        rw [show (23 : Int32) = I 23 from rfl, lit0q]
        refine add_B hv (by omega) ⟨by decide, by decide⟩ ⟨by omega, by omega⟩ ⟨by omega, by omega⟩ ⟨by decide, by decide⟩ ⟨by decide, by decide⟩ (fun w1 g1 o1 h1 fa => ?_)
        obtain ⟨f1, f2, f3, f4, f5, f6⟩ := fa
        have n1b := h1.2.2.1.2
        rw [chain_e (by omega), bnd_so]
        have g2 : KPG w1 (wa w1 21 l ((nn + 1 : Nat) : Int)) := FR.wa FR.rf (by simp)
        have a21 : ∀ k, k ≠ l → A (wa w1 21 l ((nn + 1 : Nat) : Int)) 21 k = A w1 21 k := fun k hk => wa_ne hk
        have aO : ∀ r k, r ≠ 21 → A (wa w1 21 l ((nn + 1 : Nat) : Int)) r k = A w1 r k := fun r k hr => wa_rne hr
        have a21l : A (wa w1 21 l ((nn + 1 : Nat) : Int)) 21 l = ((nn + 1 : Nat) : Int) := wa_eq ⟨by omega, by omega⟩
        have h2 : PSI (wa w1 21 l ((nn + 1 : Nat) : Int)) c pp (nn + 1) qq o (s + (m + 1)) := ⟨TKK_g g2 h1.1, h1.2⟩
        generalize wa w1 21 l ((nn + 1 : Nat) : Int) = w2 at g2 a21 aO a21l h2
        refine ok_lt.mpr ?_
        rw [show w2.1 664 = I ((s + (m + 1) : Nat) : Int) by rw [I_F (k := 664), h2.2.2.2.2.2.1], lit1q, I_sub, show ((s + (m + 1) : Nat) : Int) - 1 = ((s + m : Nat) : Int) by omega, wi_e]
        have g3 : KPG w2 (wi w2 664 ((s + m : Nat) : Int)) := FR.wi FR.rf (by simp)
        have h3 : PSI (wi w2 664 ((s + m : Nat) : Int)) c pp (nn + 1) qq o (s + m) := by
          obtain ⟨b1, b2, b3, b4, b5, b6⟩ := h2
          have e : ∀ k, k ≠ 664 → F (wi w2 664 ((s + m : Nat) : Int)) k = F w2 k := fun k hk => by rw [F_wi (by omega) (by omega), if_neg hk]
          exact ⟨b1, ⟨by rw [e 665 (by decide)]; exact b2.1, b2.2⟩, ⟨by rw [e 306 (by decide)]; exact b3.1, b3.2⟩, by rw [e 449 (by decide)]; exact b4, ⟨by rw [e 666 (by decide)]; exact b5.1, b5.2⟩, by rw [F_wi (by omega) (by omega), if_pos rfl], by omega⟩
        have r3 : (wi w2 664 ((s + m : Nat) : Int)).2.2.1 = w2.2.2.1 := rfl
        generalize wi w2 664 ((s + m : Nat) : Int) = w3 at g3 h3 r3
        have A3 : ∀ r k, A w3 r k = A w2 r k := fun r k => by show (w3.2.2.1 r k).toInt = _; rw [r3]; rfl
        have gv3 : KPG v w3 := g1.tr (g2.tr g3)
        have kv : KNc v w3 n nn l := ⟨⟨gv3.2.2.1 6 (by simp), gv3.2.2.1 7 (by simp)⟩, fun k k1 k2 => by
          obtain ⟨b1, b2, b3, b4, b5, b6⟩ := o1.1 k k2
          exact ⟨⟨by rw [A3, aO _ _ (by decide)]; exact b1, by rw [A3, aO _ _ (by decide)]; exact b2, by rw [A3, aO _ _ (by decide)]; exact b3, by rw [A3, aO _ _ (by decide)]; exact b4, by rw [A3, aO _ _ (by decide)]; exact b5⟩, fun k3 => by rw [A3, a21 k k3]; exact b6⟩⟩
        have sp3 := SP_kK (Uw_stK v w3) (Uw_bdK v) sp kv
        have ol3 : OLDc u w3 n s := by
          refine ⟨fun k hk => ?_, fun i hi => ?_⟩
          · obtain ⟨b1, b2, b3, b4, b5, b6⟩ := o1.1 k (by omega)
            obtain ⟨c1, c2, c3, c4, c5, c6⟩ := ol.1 k hk
            exact ⟨by rw [A3, aO _ _ (by decide), b1]; exact c1, by rw [A3, aO _ _ (by decide), b2]; exact c2, by rw [A3, aO _ _ (by decide), b3]; exact c3, by rw [A3, aO _ _ (by decide), b4]; exact c4, by rw [A3, aO _ _ (by decide), b5]; exact c5, by rw [A3, a21 k (by omega), b6]; exact c6⟩
          · rw [A3, aO _ _ (by decide), o1.2 i (by omega)]; exact ol.2 i hi
        have sgl3 : SGLk w3 s m S2 := SGL_k (fun i hi => by rw [A3, aO _ _ (by decide)]; exact o1.2 i (by omega)) sgl2
        have stk3 : SGKc w3 s pp m mx2 z2 aa2 oo2 := STK_k (gv3.2.2.1 6 (by simp)) (Nat.le_refl _) (fun i hi => by rw [A3, aO _ _ (by decide)]; exact o1.2 i (by omega)) t6
        have e16 : A w3 16 (nn + 1) = 23 := by rw [A3, aO _ _ (by decide)]; exact f1
        have e18 : A w3 18 (nn + 1) = k := by rw [A3, aO _ _ (by decide)]; exact f3
        have e17 : A w3 17 (nn + 1) = ((t : Nat) : Int) := by rw [A3, aO _ _ (by decide)]; exact f2
        have stp : STPcK w3 (UwK 1 o w3) (nn + 1) (pp + 1) (pp + 1) nn (nn + 1) qq qq (t :: S2) true S2 true := by
          refine Or.inr ⟨⟨rfl, by omega, rfl, rfl⟩, rfl, Or.inr ⟨e16, t, rfl, e17, by rw [e18, gv3.a6]; exact t3.symm, ?_, rfl⟩⟩
          rw [show pp + 1 - 1 = pp by omega]
          exact POP_k pop (fun t => gv3.a6)
        have hs3 : SGIK u w3 c p n q o s pp (nn + 1) qq (j + 1) (nn + 1) m mx2 z2 aa2 oo2 S2 first := ⟨g.tr gv3, ol3, h3, Or.inr ⟨hj1, by omega, l, pp + 1, nn, qq, t :: S2, true, sp3, by rw [A3]; exact a21l, stp⟩, ⟨stk3, sgl3⟩, by rw [A3, a21 _ (by omega)]; exact f6⟩
        refine ok_mono (ih w3 pp (nn + 1) qq (j + 1) (nn + 1) m mx2 z2 aa2 oo2 S2 hs3 hrkp (by omega) h2p (by omega)) (fun w r hw => ?_)
        obtain ⟨gw, hw⟩ := hw
        cases r with
        | inr k => exact ⟨gw, hw⟩
        | inl x =>
          obtain ⟨nn2, j2, l2, m2, mx3, z3, aa3, oo3, S3, b1, b2, b3, b4, b5, b6⟩ := hw
          exact ⟨gw, nn2, j2, l2, m2, mx3, z3, aa3, oo3, S3, b1, b2, by omega, by omega, by omega, b6⟩
      have e63 : ¬ (mx = 4 ∧ rk = 4) → OK (fun w r => KPG u w ∧ match r with
        | .inr k => k = 3
        | .inl x => ∃ nn2 j2 l2 m2 mx2 z2 aa2 oo2 S2, x = I ((l2 : Nat) : Int) ∧ SGIK u w c p n q o s pp nn2 qq j2 l2 m2 mx2 z2 aa2 oo2 S2 first ∧ nn2 + m2 = nn + (m + 1) ∧ nn ≤ nn2 ∧ j ≤ j2 ∧ (m2 = 0 ∨ mx2 < rk ∨ (mx2 = 4 ∧ rk = 4))) (hb_Pa_closeSigns_63 N (hg_Pa_closeSigns N M) v (I ((s : Nat) : Int)) (I ((rk : Nat) : Int)) (I ((l : Nat) : Int)) (I ((t : Nat) : Int)) (I k) (I ((mx : Nat) : Int))) := fun n4 => by
        unfold hb_Pa_closeSigns_63
        have pp6 : ∀ y : Int, A v 6 pp = y → rnkc y = rk := fun y e => by rw [← e, g.a6]; exact hrkp
        have pop : ¬ (mx = 3 ∧ rk = 3) → POPk v pp t := fun n3 => by
          have e1 := pp6 _ rfl
          have e2 : rnkc (A v 6 t) = mx := by rw [t3, t4]
          unfold POPk
          rw [e1, e2]
          exact ⟨by omega, n4, n3⟩
        refine ok_br.mpr ⟨fun z1 => ok_br.mpr ⟨fun _ => refuse_T hv (fun w gw => ⟨g.tr gw, rfl⟩), fun z2 => e79 (pop (fun z => of_decide_eq_false z2 (by rw [z.2]; rfl)))⟩, fun z1 => e79 (pop (fun z => of_decide_eq_false z1 (by rw [z.1, z.2])))⟩
      rw [show (4 : Int32) = I 4 from rfl]
      refine k_eq ⟨by omega, by omega⟩ ⟨by omega, by omega⟩ (fun he => k_eq ⟨by omega, by omega⟩ ⟨by decide, by decide⟩ (fun h4 => stop (Or.inr (Or.inr ⟨by omega, by omega⟩))) (fun n4 => e63 (by omega))) (fun n4 => e63 (by omega))
end
end
section
set_option maxRecDepth 100000
section
variable {u v w : MS} {N c p n q o s p2 n2 q2 a b l lo hi r d most f t x q0 base first : Nat}
theorem SP_firstK {E : Nat → Nat → Nat → Nat → Nat → Nat → Nat → Prop} (hb : BdE E) : ∀ {j l x c r : Nat} {S : List Nat} {g : Bool}, SPcK u E n lo a q j l x c r S g → a < n ∧ n ≤ c
  | 0, _, _, _, _, _, _, h => h.elim
  | j + 1, l, x, c, r, S, g, h => by
    rcases h with ⟨h1, h2, h0, h3⟩ | ⟨h1, h0, l2, x2, c2, r2, S2, g2, h2, h3, h4⟩
    · have := (STP_hdK hb h3).1; omega
    · have := (STP_hdK hb h4).1
      have := SP_firstK hb h2
      omega
theorem SP_tkK {E : Nat → Nat → Nat → Nat → Nat → Nat → Nat → Prop} (hb : BdE E) : ∀ {j l x c r : Nat} {S : List Nat} {g : Bool}, SPcK u E n lo a q j l x c r S g → lo + 2 ≤ x ∧ 5 * r + lo + 2 ≤ 5 * q + x
  | 0, _, _, _, _, _, _, h => h.elim
  | j + 1, l, x, c, r, S, g, h => by
    rcases h with ⟨h1, h2, h0, h3⟩ | ⟨h1, h0, l2, x2, c2, r2, S2, g2, h2, h3, h4⟩
    · rcases h3 with ⟨⟨m, e1, e2⟩, -⟩ | ⟨-, st, -⟩
      · have := hb _ _ _ _ _ _ _ e1
        unfold HDc at this
        omega
      · cases st
    · have := STP_hdK hb h4
      have := SP_tkK hb h2
      omega
theorem signed_okcK {S : SF_Pa_matched} (ho : o ≤ 25)
    (hu : ∀ u c p n q s, PSI u c p n q o s → OK (fun w r => NDQ (fun w m lo hi a b q r => UwK 1 o w m lo hi a b q r ∧ A w 21 m = 0) u c p n q o s w r) (S.2.2.2.2.2.2.2.2.2.2.2.2.1 u))
    (h : PSI u c p n q o s) (hN : 10000 ≤ N) : OK (fun w r => NDQ (fun w m lo hi a b q r => UwK 2 o w m lo hi a b q r ∧ A w 21 m = 0) u c p n q o s w r) (hm_Pa_signed N S u) := by
  have hc := h.1.1
  have h2p := h.2.2.1.2
  have e155 : ∀ (M pp nn qq j l m mx z al : Nat) (aa oo : Option Nat) (Sg : List Nat) (first : Nat) (v : MS), SGIK u v c p n q o s pp nn qq j l m mx z aa oo Sg first → rnkc (A v 6 pp) = 0 → ((al = 1 ∧ j = 1 ∧ m = 0 ∧ l = first) ∨ (al = 0 ∧ 2 ≤ j ∧ nn + m + 2 + 2 * p ≤ n + 2 * pp)) → nn + m + 1 + 2 * p ≤ n + 2 * pp → OK (fun w r => NDQ (fun w m lo hi a b q r => UwK 2 o w m lo hi a b q r ∧ A w 21 m = 0) u c p n q o s w r) (hb_Pa_signed_155 N S (hg_Pa_signed N S M) v (I ((p : Nat) : Int)) (I ((s : Nat) : Int)) (I ((first : Nat) : Int)) (I ((l : Nat) : Int)) (I ((al : Nat) : Int))) := by
    intro M pp nn qq j l m mx z al aa oo Sg first v hs hr0 hal hcnt
    have hs' := hs
    obtain ⟨g, ol, hv, sp, ⟨stk, sgl⟩, l0⟩ := hs
    have ppc := hv.2.1.2
    unfold hb_Pa_signed_155
    rcases hal with ⟨h1, h2, h3, h4⟩ | ⟨h1, hj2, h2⟩
    · subst h1 h2 h3 h4
      refine ok_br.mpr ⟨fun z => absurd z (by decide), fun _ => ok_some.mpr ?_⟩
      rcases sp with ⟨-, -, -, st⟩ | ⟨h1, -⟩
      · rcases st with ⟨⟨mm, e1, e2⟩, -⟩ | ⟨-, st, -⟩
        · have e3 : mm = pp := by omega
          subst e3
          have hd := (Uw_bdK v _ _ _ _ _ _ _ e1).2.1
          exact ⟨g, l, mm, nn, qq, rfl, ol, hv, by omega, XP_kK (by omega) (by omega) _ _ _ _ _ _ _ e1 (KN_old KPG.rf (OLDc.rf (n := nn) (s := 0)) (Nat.le_refl _)), l0⟩
        · cases st
      · exact absurd h1 (by decide)
    · subst h1
      refine ok_br.mpr ⟨fun _ => ?_, fun z => absurd z (by decide)⟩
      rw [show (0 : Int32) = I ((0 : Nat) : Int) from rfl]
      have hm4 : m ≤ 4000 := by have := hv.2.2.2.2.2.2; omega
      refine ok_T (ok_mono (closeS_okK (N := N) (rk := 0) hN (by omega) N v pp nn qq j l m mx z aa oo Sg hs' (by rw [← g.a6]; exact hr0) hcnt h2p (by omega)) (fun w r hw => ?_))
      obtain ⟨gw, hw⟩ := hw
      cases r with
      | inr k => exact ⟨gw, hw⟩
      | inl x =>
        obtain ⟨nn2, j2, l2, m2, mx2, z2, aa2, oo2, S2, rfl, ⟨-, ol2, hv2, sp2, ⟨stk2, sgl2⟩, l20⟩, b3, b4, b5, b6⟩ := hw
        have m20 : m2 = 0 := by
          rcases b6 with b6 | b6 | b6
          · exact b6
          · omega
          · omega
        subst m20
        have hS2 : S2 = [] := sgl2
        subst hS2
        have sh := SP_hdK (Uw_bdK w) sp2
        have stk4 := SP_tkK (Uw_bdK w) sp2
        have n2b : nn2 ≤ 8000 := by have := hv2.2.2.1.2; omega
        have fb : first ≤ 8015 := by have := SP_firstK (Uw_bdK w) sp2; omega
        rw [show (22 : Int32) = I 22 from rfl]
        refine add_B hv2 (by omega) ⟨by decide, by decide⟩ ⟨by omega, by omega⟩ ⟨by omega, by omega⟩ ⟨by decide, by decide⟩ ⟨by decide, by decide⟩ (fun w6 g6 o6 h6 fa => ok_some.mpr ?_)
        obtain ⟨f1, f2, f3, f4, f5, f6⟩ := fa
        have sf : SFcK w (UwK 1 o w) pp nn2 qq j2 first p n q [] false := by
          have := SF_appK (i := 0) (n2 := 0) (hi := pp) (b := nn2) (r2 := qq) sp2 (by rw [l20]; rfl) ⟨rfl, rfl, rfl, rfl, rfl, rfl⟩
          exact this
        refine ⟨gw.tr g6, nn2 + 1, pp, nn2 + 1, qq, rfl, OLDc.tr ol2 (OLDc.mo o6 (by omega)) (by omega), h6, by omega, ?_, f6⟩
        exact ⟨⟨⟨by omega, by omega⟩, by omega, by omega, by omega, by omega⟩, ⟨p, f2, by omega, by omega⟩, ho, Or.inr (Or.inr (Or.inr (Or.inr (Or.inr (Or.inr (Or.inr (Or.inr (Or.inr (Or.inr (Or.inr (Or.inr (Or.inr (Or.inr (Or.inr (Or.inr ⟨f1, Nat.le_refl _, j2, first, nn2, f3, SF_kK (Uw_stK w w6) (Uw_bdK w) sf (KN_old g6 o6 (Nat.le_refl _)), by omega, by omega⟩)))))))))))))))⟩
  have gen : ∀ (M pp nn qq j l m mx z al i : Nat) (aa oo : Option Nat) (Sg : List Nat) (first : Nat) (v : MS), SGIK u v c p n q o s pp nn qq j l m mx z aa oo Sg first → ((al = 1 ∧ j = 1 ∧ m = 0 ∧ l = first) ∨ (al = 0 ∧ 2 ≤ j ∧ nn + m + 2 + 2 * p ≤ n + 2 * pp)) → nn + m + 1 + 2 * p ≤ n + 2 * pp → i + p ≤ pp → 4001 < M + pp → OK (fun w r => NDQ (fun w m lo hi a b q r => UwK 2 o w m lo hi a b q r ∧ A w 21 m = 0) u c p n q o s w r) (hg_Pa_signed N S M v (I ((p : Nat) : Int)) (I ((s : Nat) : Int)) (I ((first : Nat) : Int)) (I ((l : Nat) : Int)) (I ((al : Nat) : Int)) (I ((i : Nat) : Int))) := by
    intro M
    induction M with
    | zero =>
      intro pp nn qq j l m mx z al i aa oo Sg first v hs
      have := hs.2.2.1.2.1.2
      omega
    | succ M ih =>
      intro pp nn qq j l m mx z al i aa oo Sg first v hs hal hcnt hi hM
      have hs' := hs
      obtain ⟨g, ol, hv, sp, ⟨stk, sgl⟩, l0⟩ := hs
      have ppc := hv.2.1.2
      have smp := hv.2.2.2.2.2.2
      show OK _ (hb_Pa_signed_24 N S (hg_Pa_signed N S M) v (I ((p : Nat) : Int)) (I ((s : Nat) : Int)) (I ((first : Nat) : Int)) (I ((l : Nat) : Int)) (I ((al : Nat) : Int)) (I ((i : Nat) : Int)))
      unfold hb_Pa_signed_24
      rw [show (4000 : Int32) = I 4000 from rfl]
      refine k_le ⟨by decide, by decide⟩ ⟨by omega, by omega⟩ (fun hge => e155 M pp nn qq j l m mx z al aa oo Sg first v hs' (by
        have ec : pp = c := by omega
        rw [ec]
        rcases hv.1.2.1 with y | y <;> rw [y] <;> rfl) hal hcnt) (fun hlt => look_T hv (fun w gw => ⟨g.tr gw, rfl⟩) (fun h45 => ?_))
      have tr := tk_rng hv.1 ppc
      have rk6 := rk_le (A v 6 pp)
      rw [rank_e tr, bnd_so, lit0q]
      refine k_le ⟨by omega, by omega⟩ ⟨by decide, by decide⟩ (fun hz => e155 M pp nn qq j l m mx z al aa oo Sg first v hs' (by omega) hal hcnt) (fun hrk => look_T hv (fun w gw => ⟨g.tr gw, rfl⟩) (fun _ => ?_))
      rw [rank_e tr, bnd_so]
      have k0 : A v 6 pp ≠ 0 := fun z => by rw [z] at hrk; exact absurd hrk (by decide)
      have hm4 : m ≤ 4000 := by omega
      refine ok_T (ok_mono (closeS_okK (N := N) (rk := rnkc (A v 6 pp)) hN rk6 N v pp nn qq j l m mx z aa oo Sg hs' (by rw [← g.a6]) hcnt h2p (by omega)) (fun w r hw => ?_))
      obtain ⟨gw, hw⟩ := hw
      cases r with
      | inr k => exact ⟨gw, hw⟩
      | inl x =>
        obtain ⟨nn2, j2, l2, m2, mx2, z2, aa2, oo2, S2, rfl, ⟨gu, ol2, hv2, sp2, ⟨stk2, sgl2⟩, l20⟩, b3, b4, b5, b6⟩ := hw
        have sm2 := hv2.2.2.2.2.2.2
        have e6 : A w 6 pp = A v 6 pp := by rw [gu.a6, ← g.a6]
        show OK _ (ck (inb (w.1 664) 4002) _)
        rw [show w.1 664 = I ((s + m2 : Nat) : Int) by rw [I_F (k := 664), hv2.2.2.2.2.2.1], show w.1 665 = I ((pp : Nat) : Int) by rw [I_F (k := 665), hv2.2.1.1]]
        refine e_in ⟨by omega, by omega⟩ (by decide) (ok_lt.mpr ?_)
        rw [tnI (n := s + m2) rfl (by omega), wa_e]
        refine ok_lt.mpr ?_
        rw [show (wa w 34 (s + m2) ((pp : Nat) : Int)).1 664 = I ((s + m2 : Nat) : Int) by show w.1 664 = _; rw [I_F (k := 664), hv2.2.2.2.2.2.1], lit1q, I_add, show ((s + m2 : Nat) : Int) + 1 = ((s + (m2 + 1) : Nat) : Int) by omega, wi_e]
        have g3 : KPG w (wi (wa w 34 (s + m2) ((pp : Nat) : Int)) 664 ((s + (m2 + 1) : Nat) : Int)) := FR.wi (FR.wa FR.rf (by simp)) (by simp)
        have A3 : ∀ r k, r ≠ 34 → A (wi (wa w 34 (s + m2) ((pp : Nat) : Int)) 664 ((s + (m2 + 1) : Nat) : Int)) r k = A w r k := fun r k hr => wa_rne hr
        have A34 : ∀ k, k ≠ s + m2 → A (wi (wa w 34 (s + m2) ((pp : Nat) : Int)) 664 ((s + (m2 + 1) : Nat) : Int)) 34 k = A w 34 k := fun k hk => wa_ne hk
        have A34e : A (wi (wa w 34 (s + m2) ((pp : Nat) : Int)) 664 ((s + (m2 + 1) : Nat) : Int)) 34 (s + m2) = ((pp : Nat) : Int) := wa_eq ⟨by omega, by omega⟩
        have eF : ∀ k, k ≠ 664 → F (wi (wa w 34 (s + m2) ((pp : Nat) : Int)) 664 ((s + (m2 + 1) : Nat) : Int)) k = F w k := fun k hk => by rw [F_wi (by omega) (by omega), if_neg hk]; rfl
        have eF4 : F (wi (wa w 34 (s + m2) ((pp : Nat) : Int)) 664 ((s + (m2 + 1) : Nat) : Int)) 664 = ((s + (m2 + 1) : Nat) : Int) := by rw [F_wi (by omega) (by omega), if_pos rfl]
        generalize wi (wa w 34 (s + m2) ((pp : Nat) : Int)) 664 ((s + (m2 + 1) : Nat) : Int) = w3 at g3 A3 A34 A34e eF eF4
        have hlt3 : pp < c := by
          rcases Nat.lt_or_ge pp c with z | z
          · exact z
          · have e : pp = c := by omega
            rw [e] at k0 h45
            rcases hv.1.2.1 with z | z
            · exact absurd z k0
            · exact absurd z h45
        have P3 : F w3 665 = ((pp : Nat) : Int) ∧ F w3 306 = ((nn2 : Nat) : Int) ∧ F w3 449 = F w 449 ∧ F w3 666 = F w 666 := ⟨by rw [eF 665 (by decide)]; exact hv2.2.1.1, by rw [eF 306 (by decide)]; exact hv2.2.2.1.1, eF 449 (by decide), eF 666 (by decide)⟩
        have kw3 : ∀ {a b l}, KNc w w3 a b l := fun {a b l} => ⟨⟨g3.2.2.1 6 (by simp), g3.2.2.1 7 (by simp)⟩, fun k _ _ => ⟨⟨A3 _ _ (by decide), A3 _ _ (by decide), A3 _ _ (by decide), A3 _ _ (by decide), A3 _ _ (by decide)⟩, fun _ => A3 _ _ (by decide)⟩⟩
        have sp3 := SP_kK (Uw_stK w w3) (Uw_bdK w) sp2 kw3
        have a63 : A w3 6 pp = A v 6 pp := by rw [g3.a6]; exact e6
        have stk3 : SGKc w3 s (pp + 1) m2 mx2 z2 aa2 oo2 := STK_k (g3.2.2.1 6 (by simp)) (by omega) (fun i hi => A34 i (by omega)) stk2
        have sgl3 : SGLk w3 s m2 S2 := SGL_k (fun i hi => A34 i (by omega)) sgl2
        have smx := STK_mx stk2
        have ord : mx2 < rnkc (A v 6 pp) ∨ (mx2 = 4 ∧ rnkc (A v 6 pp) = 4) := by
          rcases b6 with b6 | b6 | b6
          · subst b6
            have := stk2.1
            omega
          · exact Or.inl b6
          · exact Or.inr b6
        have clo : ∀ (z : MS), (∀ t, A z 6 t = A v 6 t) → CLOk z pp S2 := fun z ez t S3 hS => by
          subst hS
          cases m2 with
          | zero => cases sgl2
          | succ m2 =>
            obtain ⟨t1, S4, y1, y2, -⟩ := sgl2
            injection y1 with y1 y3
            obtain ⟨t5, k5, mx5, z5, aa5, oo5, ⟨x1, x2⟩, x3, x4, x5, -⟩ := stk2
            have et : t = t5 := by rw [y2] at x1; omega
            have ew : A w 6 t5 = A v 6 t5 := by rw [gu.a6, ← g.a6]
            rw [ez, ez, et, ← ew, x3, ← x4]
            exact ord
        have e127 : ∀ (v3 : MS) (nn3 j3 l3 z' : Nat) (aa' oo' : Option Nat) (S3 : List Nat) (gg : Bool), KPG w3 v3 → (∀ k, k ≤ n → A v3 16 k = A u 16 k ∧ A v3 17 k = A u 17 k ∧ A v3 18 k = A u 18 k ∧ A v3 19 k = A u 19 k ∧ A v3 20 k = A u 20 k ∧ A v3 21 k = A u 21 k) → (∀ i, i < s + (m2 + 1) → A v3 34 i = A w3 34 i) → (F v3 665 = ((pp : Nat) : Int) ∧ F v3 306 = ((nn3 : Nat) : Int) ∧ F v3 449 = F w 449 ∧ F v3 666 = F w 666 ∧ F v3 664 = ((s + (m2 + 1) : Nat) : Int)) → 1 ≤ j3 → SPcK v3 (UwK 1 o v3) first p n q j3 l3 (pp + 1) nn3 qq S3 gg → ((gg = false ∧ S3 = pp :: S2) ∨ (gg = true ∧ S3 = S2 ∧ 3 ≤ rnkc (A v 6 pp))) → SGKc w3 s (pp + 1) (m2 + 1) (rnkc (A v 6 pp)) z' aa' oo' → A v3 21 l3 = 0 → nn3 ≤ nn2 + 1 → OK (fun w r => NDQ (fun w m lo hi a b q r => UwK 2 o w m lo hi a b q r ∧ A w 21 m = 0) u c p n q o s w r) (hb_Pa_signed_127 N S (hg_Pa_signed N S M) v3 (I ((p : Nat) : Int)) (I ((s : Nat) : Int)) (I ((first : Nat) : Int)) (I ((l3 : Nat) : Int)) (0 : Int32) (I ((i : Nat) : Int))) := by
          intro v3 nn3 j3 l3 z' aa' oo' S3 gg gv3 old3 sg3 P hj3 sp4 hgg stk4 l30 hn3
          unfold hb_Pa_signed_127
          refine ok_lt.mpr ?_
          rw [show v3.1 665 = I ((pp : Nat) : Int) by rw [I_F (k := 665), P.1], lit1q, I_add, show ((pp : Nat) : Int) + 1 = ((pp + 1 : Nat) : Int) by omega, wi_e]
          have g4 : KPG v3 (wi v3 665 ((pp + 1 : Nat) : Int)) := KPG_at
          have r4 : (wi v3 665 ((pp + 1 : Nat) : Int)).2.2.1 = v3.2.2.1 := rfl
          have h4 : PSI (wi v3 665 ((pp + 1 : Nat) : Int)) c (pp + 1) nn3 qq o (s + (m2 + 1)) := by
            have e : ∀ k, k ≠ 665 → F (wi v3 665 ((pp + 1 : Nat) : Int)) k = F v3 k := fun k hk => by rw [F_wi (by omega) (by omega), if_neg hk]
            exact ⟨TKK_g (g3.tr (gv3.tr g4)) hv2.1, ⟨by rw [F_wi (by omega) (by omega), if_pos rfl], by omega⟩, ⟨by rw [e 306 (by decide)]; exact P.2.1, by omega⟩, by rw [e 449 (by decide), P.2.2.1]; exact hv2.2.2.2.1, ⟨by rw [e 666 (by decide), P.2.2.2.1]; exact hv2.2.2.2.2.1.1, ho⟩, by rw [e 664 (by decide)]; exact P.2.2.2.2, by omega⟩
          generalize wi v3 665 ((pp + 1 : Nat) : Int) = v4 at g4 r4 h4
          have A4 : ∀ r k, A v4 r k = A v3 r k := fun r k => by show (v4.2.2.1 r k).toInt = _; rw [r4]; rfl
          refine ok_T (ok_mono (hu v4 c (pp + 1) nn3 qq (s + (m2 + 1)) h4) (fun w5 r hw5 => ?_))
          obtain ⟨g5, hw5⟩ := hw5
          cases r with
          | inr k => exact ⟨gu.tr (g3.tr (gv3.tr (g4.tr g5))), hw5⟩
          | inl x5 =>
            obtain ⟨m5, p5, n5, q5, rfl, ol5, hv5, hp5, em, m50⟩ := hw5
            have hd := Uw_bdK w5 _ _ _ _ _ _ _ em
            unfold HDc at hd
            have n5b : n5 ≤ 8000 := by have := hv5.2.2.1.2; have := hv5.2.1.2; omega
            have p5c := hv5.2.1.2
            have sh := SP_hdK (Uw_bdK v3) sp4
            show OK _ (bnd (hm_Pa_chain N w5 (I ((l3 : Nat) : Int)) (I ((m5 : Nat) : Int))) _)
            rw [chain_e (by omega), bnd_so, I_add, show ((i : Nat) : Int) + 1 = ((i + 1 : Nat) : Int) by omega]
            have g6 : KPG w5 (wa w5 21 l3 ((m5 : Nat) : Int)) := FR.wa FR.rf (by simp)
            have a21 : ∀ k, k ≠ l3 → A (wa w5 21 l3 ((m5 : Nat) : Int)) 21 k = A w5 21 k := fun k hk => wa_ne hk
            have aO : ∀ r k, r ≠ 21 → A (wa w5 21 l3 ((m5 : Nat) : Int)) r k = A w5 r k := fun r k hr => wa_rne hr
            have a21l : A (wa w5 21 l3 ((m5 : Nat) : Int)) 21 l3 = ((m5 : Nat) : Int) := wa_eq ⟨by omega, by omega⟩
            have h6 : PSI (wa w5 21 l3 ((m5 : Nat) : Int)) c p5 n5 q5 o (s + (m2 + 1)) := ⟨TKK_g g6 hv5.1, hv5.2⟩
            generalize wa w5 21 l3 ((m5 : Nat) : Int) = w6 at g6 a21 aO a21l h6
            have gv36 : KPG v3 w6 := g4.tr (g5.tr g6)
            have kv : KNc v3 w6 n nn3 l3 := ⟨⟨gv36.2.2.1 6 (by simp), gv36.2.2.1 7 (by simp)⟩, fun k k1 k2 => by
              obtain ⟨b1, b2, b3, b4, b5, b6⟩ := ol5.1 k k2
              exact ⟨⟨by rw [aO _ _ (by decide), b1, A4], by rw [aO _ _ (by decide), b2, A4], by rw [aO _ _ (by decide), b3, A4], by rw [aO _ _ (by decide), b4, A4], by rw [aO _ _ (by decide), b5, A4]⟩, fun k3 => by rw [a21 k k3, b6, A4]⟩⟩
            have kw : KNc w5 w6 nn3 n5 m5 := ⟨⟨g6.2.2.1 6 (by simp), g6.2.2.1 7 (by simp)⟩, fun k k1 k2 => ⟨⟨aO _ _ (by decide), aO _ _ (by decide), aO _ _ (by decide), aO _ _ (by decide), aO _ _ (by decide)⟩, fun k3 => a21 k (by omega)⟩⟩
            have sp6 := SP_kK (Uw_stK v3 w6) (Uw_bdK v3) sp4 kv
            have em6 := Uw_stK w5 w6 _ _ _ _ _ _ _ em kw
            have ol6 : OLDc u w6 n s := by
              refine ⟨fun k hk => ?_, fun i hi => ?_⟩
              · obtain ⟨b1, b2, b3, b4, b5, b6⟩ := ol5.1 k (by omega)
                obtain ⟨c1, c2, c3, c4, c5, c6⟩ := old3 k hk
                exact ⟨by rw [aO _ _ (by decide), b1, A4]; exact c1, by rw [aO _ _ (by decide), b2, A4]; exact c2, by rw [aO _ _ (by decide), b3, A4]; exact c3, by rw [aO _ _ (by decide), b4, A4]; exact c4, by rw [aO _ _ (by decide), b5, A4]; exact c5, by rw [a21 k (by omega), b6, A4]; exact c6⟩
              · rw [aO _ _ (by decide), ol5.2 i (by omega), A4, sg3 i (by omega), A34 i (by omega)]; exact ol2.2 i hi
            have stk6 : SGKc w6 s p5 (m2 + 1) (rnkc (A v 6 pp)) z' aa' oo' := STK_k ((gv36.2.2.1 6 (by simp)).trans (gv3.2.2.1 6 (by simp))) (by omega) (fun i hi => by rw [aO _ _ (by decide), ol5.2 i (by omega), A4, sg3 i (by omega)]) stk4
            have w6v : ∀ t, A w6 6 t = A v 6 t := fun t => by rw [(gu.tr (g3.tr (gv3.tr gv36))).a6, ← g.a6]
            have sgl6 : SGLk w6 s (m2 + 1) (pp :: S2) := ⟨pp, S2, rfl, by rw [aO _ _ (by decide), ol5.2 _ (by omega), A4, sg3 _ (by omega)]; exact A34e, SGL_k (fun i hi => by rw [aO _ _ (by decide), ol5.2 i (by omega), A4, sg3 i (by omega)]) sgl3⟩
            have hs6 : SGIK u w6 c p n q o s p5 n5 q5 (j3 + 1) m5 (m2 + 1) (rnkc (A v 6 pp)) z' aa' oo' (pp :: S2) first := ⟨gu.tr (g3.tr (gv3.tr gv36)), ol6, h6, Or.inr ⟨hj3, by omega, l3, pp + 1, nn3, qq, S3, gg, sp6, a21l, Or.inl ⟨⟨p5, em6, rfl⟩, rfl, by
              rcases hgg with ⟨e1, e2⟩ | ⟨e1, e2, e3⟩
              · exact Or.inl ⟨e1, e2.symm⟩
              · refine Or.inr ⟨e1, ?_, ?_, ?_⟩
                · rw [show pp + 1 - 1 = pp by omega, e2]
                · rw [show pp + 1 - 1 = pp by omega, w6v]; exact e3
                · rw [show pp + 1 - 1 = pp by omega, e2]; exact clo w6 w6v⟩⟩, ⟨stk6, sgl6⟩, by rw [a21 _ (by omega)]; exact m50⟩
            exact ih p5 n5 q5 (j3 + 1) m5 (m2 + 1) (rnkc (A v 6 pp)) z' 0 (i + 1) aa' oo' (pp :: S2) first w6 hs6 (Or.inr ⟨rfl, by omega, by omega⟩) (by omega) (by omega) (by omega)
        have old3 : ∀ k, k ≤ n → A w3 16 k = A u 16 k ∧ A w3 17 k = A u 17 k ∧ A w3 18 k = A u 18 k ∧ A w3 19 k = A u 19 k ∧ A w3 20 k = A u 20 k ∧ A w3 21 k = A u 21 k := fun k hk => by
          obtain ⟨c1, c2, c3, c4, c5, c6⟩ := ol2.1 k hk
          exact ⟨by rw [A3 _ _ (by decide)]; exact c1, by rw [A3 _ _ (by decide)]; exact c2, by rw [A3 _ _ (by decide)]; exact c3, by rw [A3 _ _ (by decide)]; exact c4, by rw [A3 _ _ (by decide)]; exact c5, by rw [A3 _ _ (by decide)]; exact c6⟩
        have hj2 : 1 ≤ j2 := by
          cases j2 with
          | zero => exact sp2.elim
          | succ j => omega
        have rk1 : 1 ≤ rnkc (A v 6 pp) := by omega
        have hv3 : PSI w3 c pp nn2 qq o (s + (m2 + 1)) ∨ True := Or.inr trivial
        have e102 : ∀ (k : Int), A v 6 pp = k → ((k = 6 ∧ aa2 = none) ∨ (k = 16 ∧ aa2 = none ∧ oo2 = none)) → OK (fun w r => NDQ (fun w m lo hi a b q r => UwK 2 o w m lo hi a b q r ∧ A w 21 m = 0) u c p n q o s w r) (hb_Pa_signed_102 N S (hg_Pa_signed N S M) w3 (I ((p : Nat) : Int)) (I ((s : Nat) : Int)) (I ((first : Nat) : Int)) (I ((l2 : Nat) : Int)) (0 : Int32) (I ((i : Nat) : Int)) (I k)) := fun k ek hk => by
          unfold hb_Pa_signed_102
          have hw3 : PSI w3 c pp nn2 qq o 0 ∨ True := Or.inr trivial
          have sh := SP_hdK (Uw_bdK w3) sp3
          rw [show w3.1 665 = I ((pp : Nat) : Int) by rw [I_F (k := 665), P3.1], show (24 : Int32) = I 24 from rfl, lit0q]
          obtain ⟨w4, ea, g4, o4, ⟨zz, e2, e3⟩, f1, f2, f3, f4, f5, f6⟩ := add_ok2 (N := N) (s := s + (m2 + 1)) (x1 := 24) (x2 := ((pp : Nat) : Int)) (x3 := k) (x4 := 0) (x5 := 0) P3.2.1 (by omega) ⟨by decide, by decide⟩ ⟨by omega, by omega⟩ ⟨by omega, by omega⟩ ⟨by decide, by decide⟩ ⟨by decide, by decide⟩
          rw [ea, bnd_so]
          have eF4' : ∀ k, k ≠ 306 → F w4 k = F w3 k := fun k hk => by show (w4.1 k).toInt = _; rw [e2, e3]; show F (wi w3 306 _) k = _; rw [F_wi (by omega) (by omega), if_neg hk]
          have e306 : F w4 306 = ((nn2 + 1 : Nat) : Int) := by show (w4.1 306).toInt = _; rw [e2, e3]; show F (wi w3 306 _) 306 = _; rw [F_wi (by omega) (by omega), if_pos rfl]
          have n2b : nn2 ≤ 8000 := by have := hv2.2.2.1.2; omega
          rw [chain_e (by omega), bnd_so]
          have g6 : KPG w4 (wa w4 21 l2 ((nn2 + 1 : Nat) : Int)) := FR.wa FR.rf (by simp)
          have a21 : ∀ k, k ≠ l2 → A (wa w4 21 l2 ((nn2 + 1 : Nat) : Int)) 21 k = A w4 21 k := fun k hk => wa_ne hk
          have aO : ∀ r k, r ≠ 21 → A (wa w4 21 l2 ((nn2 + 1 : Nat) : Int)) r k = A w4 r k := fun r k hr => wa_rne hr
          have a21l : A (wa w4 21 l2 ((nn2 + 1 : Nat) : Int)) 21 l2 = ((nn2 + 1 : Nat) : Int) := wa_eq ⟨by omega, by omega⟩
          have F6 : ∀ k, F (wa w4 21 l2 ((nn2 + 1 : Nat) : Int)) k = F w4 k := fun _ => rfl
          generalize wa w4 21 l2 ((nn2 + 1 : Nat) : Int) = w6 at g6 a21 aO a21l F6
          have g36 : KPG w3 w6 := g4.tr g6
          have kv : KNc w3 w6 n nn2 l2 := ⟨⟨g36.2.2.1 6 (by simp), g36.2.2.1 7 (by simp)⟩, fun k k1 k2 => by
            obtain ⟨b1, b2, b3, b4, b5, b6⟩ := o4.1 k k2
            exact ⟨⟨by rw [aO _ _ (by decide)]; exact b1, by rw [aO _ _ (by decide)]; exact b2, by rw [aO _ _ (by decide)]; exact b3, by rw [aO _ _ (by decide)]; exact b4, by rw [aO _ _ (by decide)]; exact b5⟩, fun k3 => by rw [a21 k k3]; exact b6⟩⟩
          have sp6 := SP_kK (Uw_stK w3 w6) (Uw_bdK w3) sp3 kv
          have e16 : A w6 16 (nn2 + 1) = 24 := by rw [aO _ _ (by decide)]; exact f1
          have e18 : A w6 18 (nn2 + 1) = k := by rw [aO _ _ (by decide)]; exact f3
          have e17 : A w6 17 (nn2 + 1) = ((pp : Nat) : Int) := by rw [aO _ _ (by decide)]; exact f2
          have old6 : ∀ k, k ≤ n → A w6 16 k = A u 16 k ∧ A w6 17 k = A u 17 k ∧ A w6 18 k = A u 18 k ∧ A w6 19 k = A u 19 k ∧ A w6 20 k = A u 20 k ∧ A w6 21 k = A u 21 k := fun k hk => by
            obtain ⟨b1, b2, b3, b4, b5, b6⟩ := o4.1 k (by omega)
            obtain ⟨c1, c2, c3, c4, c5, c6⟩ := old3 k hk
            exact ⟨by rw [aO _ _ (by decide), b1]; exact c1, by rw [aO _ _ (by decide), b2]; exact c2, by rw [aO _ _ (by decide), b3]; exact c3, by rw [aO _ _ (by decide), b4]; exact c4, by rw [aO _ _ (by decide), b5]; exact c5, by rw [a21 k (by omega), b6]; exact c6⟩
          have P6 : F w6 665 = ((pp : Nat) : Int) ∧ F w6 306 = ((nn2 + 1 : Nat) : Int) ∧ F w6 449 = F w 449 ∧ F w6 666 = F w 666 ∧ F w6 664 = ((s + (m2 + 1) : Nat) : Int) := ⟨by rw [F6, eF4' 665 (by decide)]; exact P3.1, by rw [F6]; exact e306, by rw [F6, eF4' 449 (by decide)]; exact P3.2.2.1, by rw [F6, eF4' 666 (by decide)]; exact P3.2.2.2, by rw [F6, eF4' 664 (by decide)]; exact eF4⟩
          have sg6 : ∀ i, i < s + (m2 + 1) → A w6 34 i = A w3 34 i := fun i hi => by rw [aO _ _ (by decide)]; exact o4.2 i hi
          have top : A w3 34 (s + m2) = ((pp : Nat) : Int) ∧ pp < pp + 1 := ⟨A34e, by omega⟩
          have z1 : z2 + 1 - 1 = z2 := by omega
          have w6v : ∀ t, A w6 6 t = A v 6 t := fun t => by rw [(gu.tr (g3.tr g36)).a6, ← g.a6]
          have stp : STPcK w6 (UwK 1 o w6) (nn2 + 1) (pp + 1) (pp + 1) nn2 (nn2 + 1) qq qq S2 true (pp :: S2) false := by
            refine Or.inr ⟨⟨rfl, by omega, rfl, rfl⟩, rfl, Or.inl ?_⟩
            rw [show pp + 1 - 1 = pp by omega, w6v]
            exact ⟨e16, e17, by rw [e18]; exact ek.symm, by rw [ek]; rcases hk with ⟨hk, -⟩ | ⟨hk, -⟩ <;> omega, clo w6 w6v, rfl, rfl⟩
          rcases hk with ⟨hk, ha2⟩ | ⟨hk, ha2, ho2⟩
          · exact e127 w6 (nn2 + 1) (j2 + 1) (nn2 + 1) z2 (some z2) oo2 (pp :: S2) false g36 old6 sg6 P6 (by omega) (Or.inr ⟨hj2, by omega, l2, pp + 1, nn2, qq, S2, true, sp6, a21l, stp⟩) (Or.inl ⟨rfl, rfl⟩) ⟨pp, k, mx2, z2, aa2, oo2, top, by rw [a63]; exact ek, by rw [ek], rk1, stk3, ord, Or.inl ⟨hk, rfl, ha2, rfl, rfl⟩⟩ (by rw [a21 _ (by omega)]; exact f6) (by omega)
          · exact e127 w6 (nn2 + 1) (j2 + 1) (nn2 + 1) z2 none (some z2) (pp :: S2) false g36 old6 sg6 P6 (by omega) (Or.inr ⟨hj2, by omega, l2, pp + 1, nn2, qq, S2, true, sp6, a21l, stp⟩) (Or.inl ⟨rfl, rfl⟩) ⟨pp, k, mx2, z2, aa2, oo2, top, by rw [a63]; exact ek, by rw [ek], rk1, stk3, ord, Or.inr (Or.inl ⟨hk, rfl, ha2, ho2, rfl, rfl⟩)⟩ (by rw [a21 _ (by omega)]; exact f6) (by omega)
        have na : ∀ {y : Nat}, (aa2 ≠ none → y ≤ mx2) → mx2 < y → aa2 = none := fun {y} h1 h2 => by
          cases aa2 with
          | none => rfl
          | some a => have := h1 (by simp); omega
        have no : (oo2 ≠ none → 1 ≤ mx2) → mx2 < 1 → oo2 = none := fun h1 h2 => by
          cases oo2 with
          | none => rfl
          | some a => have := h1 (by simp); omega
        rw [show (6 : Int32) = I 6 from rfl, show (16 : Int32) = I 16 from rfl]
        refine k_eq (A_r v 6 pp) ⟨by decide, by decide⟩ (fun e => ?_) (fun n6 => k_eq (A_r v 6 pp) ⟨by decide, by decide⟩ (fun e => ?_) (fun n16 => ?_))
        · have r2 : rnkc (A v 6 pp) = 2 := by rw [e]; rfl
          exact e102 _ rfl (Or.inl ⟨e, na smx.1 (by omega)⟩)
        · have r1 : rnkc (A v 6 pp) = 1 := by rw [e]; rfl
          exact e102 _ rfl (Or.inr ⟨e, na (y := 2) smx.1 (by omega), no smx.2 (by omega)⟩)
        · have r3 : 3 ≤ rnkc (A v 6 pp) := by
            unfold rnkc at rk1 ⊢
            rw [if_neg n16, if_neg n6] at rk1 ⊢
            revert rk1
            repeat' (first | omega | split)
          exact e127 w3 nn2 j2 l2 (z2 + 1) aa2 oo2 S2 true KPG.rf old3 (fun _ _ => rfl) ⟨P3.1, P3.2.1, P3.2.2.1, P3.2.2.2, eF4⟩ hj2 sp3 (Or.inr ⟨rfl, rfl, r3⟩) ⟨pp, A v 6 pp, mx2, z2, aa2, oo2, ⟨A34e, by omega⟩, a63, rfl, rk1, stk3, ord, Or.inr (Or.inr ⟨n6, n16, rfl, rfl, rfl⟩)⟩ (by rw [A3 _ _ (by decide)]; exact l20) (by omega)
  unfold hm_Pa_signed hb_Pa_signed_0
  rw [show u.1 665 = I ((p : Nat) : Int) by rw [I_F (k := 665), h.2.1.1], show u.1 664 = I ((s : Nat) : Int) by rw [I_F (k := 664), h.2.2.2.2.2.1]]
  refine ok_T (ok_mono (hu u c p n q s h) (fun w5 r hw5 => ?_))
  obtain ⟨g5, hw5⟩ := hw5
  cases r with
  | inr k => exact ⟨g5, hw5⟩
  | inl x2 =>
    obtain ⟨m, p5, n5, q5, rfl, ol5, hv5, hp5, em, m0⟩ := hw5
    have hd := Uw_bdK w5 _ _ _ _ _ _ _ em
    unfold HDc at hd
    exact gen N p5 n5 q5 1 m 0 0 0 1 0 none none [] m w5 ⟨g5, ol5, hv5, Or.inl ⟨rfl, rfl, by omega, Or.inl ⟨⟨p5, em, rfl⟩, rfl, Or.inl ⟨rfl, rfl⟩⟩⟩, ⟨⟨rfl, rfl, rfl, rfl⟩, rfl⟩, m0⟩ (Or.inl ⟨rfl, rfl, rfl, rfl⟩) (by omega) (by omega) (by omega)
end
end
section
set_option maxRecDepth 100000
section
variable {u v w : MS} {N c p n q o s p2 n2 q2 a b l lo hi r d most f t x q0 base first cl : Nat}
theorem ip_rowK {S : SF_Tr_isPattern} {E P : Nat → Nat → Nat → Nat → Nat → Nat → Nat → Prop} {R : Prop} (hbd : BdE E) (hb : b ≤ 8015) (he : ∀ m lo hi a2 b2 q r, b2 ≤ 8015 → E m lo hi a2 b2 q r → OK (fun w r2 => IPQ u (P m lo hi a2 b2 q r) w r2) (S u (I ((m : Nat) : Int))))
    (hend : ∀ M, OK (fun w r => IPQ u R w r) (hb_Tr_isPattern_129 N S (hg_Tr_isPattern N S M) u (I ((x : Nat) : Int)) (I 0))) : ∀ (k M m lo a q : Nat), RWcK u 1 26 E k m lo hi a b q r → k < M → OK (fun w r2 => IPQ u (RWcK u 1 26 P k m lo hi a b q r ∧ R) w r2) (hg_Tr_isPattern N S M u (I ((x : Nat) : Int)) (I ((m : Nat) : Int))) := by
  intro k
  induction k with
  | zero => intro M m lo a q h; exact h.elim
  | succ k ih =>
    intro M m lo a q h hM
    obtain ⟨m2, c, s, e, h⟩ := h
    have g := (hbd _ _ _ _ _ _ _ e).1
    have hcb : c ≤ b := by
      rcases h with ⟨-, -, -, h, -⟩ | ⟨-, n2, -, h3⟩
      · omega
      · have := (RW_hdK hbd h3).1.1; omega
    cases M with
    | zero => omega
    | succ M =>
      show OK _ (hb_Tr_isPattern_129 N S (hg_Tr_isPattern N S M) u (I ((x : Nat) : Int)) (I ((m : Nat) : Int)))
      unfold hb_Tr_isPattern_129
      refine k_eq (x := ((m : Nat) : Int)) (y := 0) ⟨by omega, by omega⟩ ⟨by decide, by decide⟩ (fun z => by omega) (fun _ => ?_)
      refine ok_bnd.mpr (ok_mono (he _ _ _ _ _ _ _ (by omega) e) (fun w r2 hw => ?_))
      obtain ⟨rfl, hr⟩ := hw
      rcases hr with rfl | ⟨rfl, hp⟩
      · refine ok_br.mpr ⟨fun _ => ip0, fun z => absurd z (by decide)⟩
      · refine ok_br.mpr ⟨fun z => absurd z (by decide), fun _ => ?_⟩
        refine e_in ⟨by omega, by omega⟩ (by decide) ?_
        rw [tnI (n := m) rfl (by omega), I_A (k := 21)]
        rcases h with ⟨h1, h2, h3, h4, h5⟩ | ⟨h1, n2, h2, h3⟩
        · rw [h2]
          cases M with
          | zero => omega
          | succ M =>
            refine ok_mono (hend M) (fun w3 r3 hw3 => ?_)
            obtain ⟨rfl, hr3⟩ := hw3
            refine ⟨rfl, ?_⟩
            rcases hr3 with hr3 | ⟨hr3, hr4⟩
            · exact Or.inl hr3
            · exact Or.inr ⟨hr3, ⟨m2, c, s, hp, Or.inl ⟨h1, h2, h3, h4, h5⟩⟩, hr4⟩
        · rw [h2]
          refine ok_mono (ih M n2 (m2 + 1) c s h3 (by omega)) (fun w3 r3 hw3 => ?_)
          obtain ⟨rfl, hr3⟩ := hw3
          refine ⟨rfl, ?_⟩
          rcases hr3 with hr3 | ⟨hr3, hr4, hr5⟩
          · exact Or.inl hr3
          · exact Or.inr ⟨hr3, ⟨m2, c, s, hp, Or.inr ⟨h1, n2, h2, hr4⟩⟩, hr5⟩
theorem isPat_okK (hN : 10000 ≤ N) : ∀ (f d o cl x lo hi a b q r : Nat), f ≤ d → XPcK u f o cl x lo hi a b q r → b ≤ 8015 → OK (fun w r2 => IPQ u (PAcK u f x lo hi a b q r) w r2) (hrc_Tr_isPattern N d u (I ((x : Nat) : Int))) := by
  intro f
  induction f with
  | zero => intro d o cl x lo hi a b q r _ h; exact h.elim
  | succ f ih =>
    intro d o cl x lo hi a b q r hd h hb
    cases d with
    | zero => omega
    | succ d =>
      show OK _ (hm_Tr_isPattern N (hrc_Tr_isPattern N d) u (I ((x : Nat) : Int)))
      obtain ⟨h1, h2, h3, h4⟩ := h
      have hn := h1.1
      have he : ∀ o cl m lo hi a2 b2 q r, b2 ≤ 8015 → XPcK u f o cl m lo hi a2 b2 q r → OK (fun w r2 => IPQ u (PAcK u f m lo hi a2 b2 q r) w r2) (hrc_Tr_isPattern N d u (I ((m : Nat) : Int))) := fun o cl m lo hi a2 b2 q r hb2 h => ih d o cl m lo hi a2 b2 q r (by omega) h hb2
      rcases h4 with ⟨h4, h5, h6⟩ | ⟨h4, m, c, h5, h6, h7⟩ | ⟨h4, h5, -⟩ | ⟨h4, h5, -⟩ | ⟨h4, -⟩ | ⟨h4, -⟩ | ⟨h4, -⟩ | ⟨h4, -⟩ | ⟨h4, -⟩ | ⟨h4, -⟩ | ⟨h4, -⟩ | ⟨h4, -⟩ | ⟨h4, h5, m, c, h6, h7, h8⟩ | ⟨h4, -⟩ | ⟨h4, -⟩ | ⟨h4, -⟩ | ⟨h4, -⟩
      · have pa : PAcK u (f + 1) x lo hi a b q r := ⟨h1, h2, h6, Or.inl ⟨h4, h5.1⟩⟩
        have e := h4.1
        unfold hm_Tr_isPattern hb_Tr_isPattern_0
        refine e_in ⟨by omega, by omega⟩ (by decide) ?_
        rw [tnI (n := x) rfl (by omega), I_A (k := 16), e]
        have cs : A u 6 lo = 1 ∨ A u 6 lo = 2 ∨ A u 6 lo = 3 ∨ A u 6 lo = 4 := by have := h4.2.1; omega
        rcases cs with e | e | e | e <;> (rw [e]; exact ip1 pa)
      · have b1 := (XP_bdK _ _ _ _ _ _ _ _ _ _ h6).1
        unfold hm_Tr_isPattern hb_Tr_isPattern_0
        refine e_in ⟨by omega, by omega⟩ (by decide) ?_
        rw [tnI (n := x) rfl (by omega), I_A (k := 16), h4]
        show OK _ (ck (inb (I ((x : Nat) : Int)) 8016) (bnd (hrc_Tr_isPattern N d u (u.2.2.1 18 x)) (fun u21 r21 => ck (isb r21) (some (u21, r21)))))
        refine e_in ⟨by omega, by omega⟩ (by decide) ?_
        rw [I_A (k := 18), h5]
        refine ok_bnd.mpr (ok_mono (he _ _ _ _ _ _ _ _ _ (by omega) h6) (fun w r2 hw => ?_))
        obtain ⟨rfl, hr⟩ := hw
        rcases hr with rfl | ⟨rfl, hp⟩
        · exact ip0
        · exact ip1 ⟨h1, h2, PAqK hp, Or.inr (Or.inr (Or.inl ⟨h4, m, c, h5, hp, h7.1, h7.2.1, h7.2.2.1⟩))⟩
      · obtain ⟨k, m, c, h6, h7, h8, h9, h10⟩ := h5
        unfold hm_Tr_isPattern hb_Tr_isPattern_0
        refine e_in ⟨by omega, by omega⟩ (by decide) ?_
        rw [tnI (n := x) rfl (by omega), I_A (k := 16), h4]
        show OK _ (ck (inb (I ((x : Nat) : Int)) 8016) (hg_Tr_isPattern N (hrc_Tr_isPattern N d) N u (I ((x : Nat) : Int)) (u.2.2.1 18 x)))
        refine e_in ⟨by omega, by omega⟩ (by decide) ?_
        rw [I_A (k := 18), h6]
        have pa : ORcK u 1 26 (PAcK u f) k m (lo + 1) (hi - 1) a c q r → PAcK u (f + 1) x lo hi a b q r := fun z => ⟨h1, h2, ORqK (fun _ _ _ _ _ _ _ h => PAqK h) z, Or.inr (Or.inr (Or.inr (Or.inl ⟨h4, k, m, c, h6, h7, h8, z, h10⟩)))⟩
        rcases h9 with h9 | ⟨h9, h11⟩
        · rw [h9.2.1]
          cases N with
          | zero => omega
          | succ N' =>
            refine ok_mono (ip6 (N := N' + 1) (by omega) h4 N') (fun w r2 hw => ?_)
            obtain ⟨rfl, hr⟩ := hw
            refine ⟨rfl, ?_⟩
            rcases hr with hr | ⟨hr, -⟩
            · exact Or.inl hr
            · exact Or.inr ⟨hr, pa (Or.inl h9)⟩
        · have rh := (RW_hdK (XP_bdK _ _ _) h11).1
          refine ok_mono (ip_rowK (N := N) (R := True) (XP_bdK _ _ _) (by omega) (fun m lo hi a2 b2 q r hb2 h => he _ _ _ _ _ _ _ _ _ hb2 h) (fun M => ip6 (by omega) h4 M) k N m (lo + 1) a q h11 (by omega)) (fun w r2 hw => ?_)
          obtain ⟨rfl, hr⟩ := hw
          refine ⟨rfl, ?_⟩
          rcases hr with hr | ⟨hr, hr2, -⟩
          · exact Or.inl hr
          · exact Or.inr ⟨hr, pa (Or.inr ⟨h9, hr2⟩)⟩
      · obtain ⟨k, m, mid, c, s, h6, h7, h8, h9, h10⟩ := h5
        unfold hm_Tr_isPattern hb_Tr_isPattern_0
        refine e_in ⟨by omega, by omega⟩ (by decide) ?_
        rw [tnI (n := x) rfl (by omega), I_A (k := 16), h4]
        show OK _ (ck (inb (I ((x : Nat) : Int)) 8016) (hg_Tr_isPattern N (hrc_Tr_isPattern N d) N u (I ((x : Nat) : Int)) (u.2.2.1 18 x)))
        refine e_in ⟨by omega, by omega⟩ (by decide) ?_
        rw [I_A (k := 18), h6]
        have hend : ∀ M, OK (fun w r2 => IPQ u ((A u 20 x = 0 ∧ hi = mid + 1 ∧ s = r ∧ c < x) ∨ ((1 ≤ k ∧ A u 6 mid = 29) ∧ ∃ y c2 : Nat, A u 20 x = ((y : Nat) : Int) ∧ PAcK u f y (mid + 1) (hi - 1) c c2 s r ∧ c2 < x)) w r2) (hb_Tr_isPattern_129 N (hrc_Tr_isPattern N d) (hg_Tr_isPattern N (hrc_Tr_isPattern N d) M) u (I ((x : Nat) : Int)) (I 0)) := fun M => by
          unfold hb_Tr_isPattern_129 hb_Tr_isPattern_186 hb_Tr_isPattern_191
          rw [show decide (I 0 = (0 : Int32)) = true from by decide, br_tq]
          refine e_in ⟨by omega, by omega⟩ (by decide) ?_
          rw [tnI (n := x) rfl (by omega), I_A (k := 16), h4]
          rw [show decide (I 7 = (6 : Int32)) = false from by decide, br_fq]
          refine e_in ⟨by omega, by omega⟩ (by decide) ?_
          rw [I_A (k := 20)]
          rcases h10 with ⟨h10, h11⟩ | ⟨h10, y, c2, h11, h12, h13⟩
          · rw [h10]
            exact ok_br.mpr ⟨fun _ => ip1 (Or.inl ⟨rfl, h11⟩), fun z => absurd z (by decide)⟩
          · have b1 := (XP_bdK _ _ _ _ _ _ _ _ _ _ h12).1
            rw [h11]
            refine k_eq (x := ((y : Nat) : Int)) (y := 0) ⟨by omega, by omega⟩ ⟨by decide, by decide⟩ (fun z => by omega) (fun _ => ?_)
            refine e_in ⟨by omega, by omega⟩ (by decide) ?_
            refine ok_bnd.mpr (ok_mono (he _ _ _ _ _ _ _ _ _ (by omega) h12) (fun w r2 hw => ?_))
            obtain ⟨rfl, hr⟩ := hw
            rcases hr with rfl | ⟨rfl, hp⟩
            · exact ok_br.mpr ⟨fun _ => ip0, fun z => absurd z (by decide)⟩
            · exact ok_br.mpr ⟨fun z => absurd z (by decide), fun _ => ip1 (Or.inr ⟨h10, y, c2, rfl, hp, h13⟩)⟩
        have hc : c < x := by
          rcases h10 with ⟨-, -, -, h⟩ | ⟨-, y, c2, -, h6, h7⟩
          · exact h
          · have := (XP_bdK _ _ _ _ _ _ _ _ _ _ h6).1; omega
        have pa : ORcK u 1 26 (PAcK u f) k m (lo + 1) mid a c q s → ((A u 20 x = 0 ∧ hi = mid + 1 ∧ s = r ∧ c < x) ∨ ((1 ≤ k ∧ A u 6 mid = 29) ∧ ∃ y c2 : Nat, A u 20 x = ((y : Nat) : Int) ∧ PAcK u f y (mid + 1) (hi - 1) c c2 s r ∧ c2 < x)) → PAcK u (f + 1) x lo hi a b q r := fun z1 z2 => by
          have tl : TLcK u (PAcK u f) x lo hi a q r := ⟨k, m, mid, c, s, h6, h7, h8, z1, z2⟩
          exact ⟨h1, h2, TLqK tl, Or.inr (Or.inr (Or.inr (Or.inr ⟨h4, tl⟩)))⟩
        rcases h9 with h9 | ⟨h9, h11⟩
        · rw [h9.2.1]
          cases N with
          | zero => omega
          | succ N' =>
            refine ok_mono (hend N') (fun w r2 hw => ?_)
            obtain ⟨rfl, hr⟩ := hw
            refine ⟨rfl, ?_⟩
            rcases hr with hr | ⟨hr, hr2⟩
            · exact Or.inl hr
            · exact Or.inr ⟨hr, pa (Or.inl h9) hr2⟩
        · have rh := (RW_hdK (XP_bdK _ _ _) h11).1
          refine ok_mono (ip_rowK (N := N) (XP_bdK _ _ _) (by omega) (fun m lo hi a2 b2 q r hb2 h => he _ _ _ _ _ _ _ _ _ hb2 h) hend k N m (lo + 1) a q h11 (by omega)) (fun w r2 hw => ?_)
          obtain ⟨rfl, hr⟩ := hw
          refine ⟨rfl, ?_⟩
          rcases hr with hr | ⟨hr, hr2, hr3⟩
          · exact Or.inl hr
          · exact Or.inr ⟨hr, pa (Or.inr ⟨h9, hr2⟩) hr3⟩
      · exact ipK hN (by omega) h4 (by omega) (by omega)
      · exact ipK hN (by omega) h4 (by omega) (by omega)
      · exact ipK hN (by omega) h4 (by omega) (by omega)
      · exact ipK hN (by omega) h4 (by omega) (by omega)
      · exact ipK hN (by omega) h4 (by omega) (by omega)
      · exact ipK hN (by omega) h4 (by omega) (by omega)
      · exact ipK hN (by omega) h4 (by omega) (by omega)
      · exact ipK hN (by omega) h4 (by omega) (by omega)
      · rcases h4 with h4 | h4
        · have b1 := (XP_bdK _ _ _ _ _ _ _ _ _ _ h7).1
          unfold hm_Tr_isPattern hb_Tr_isPattern_0 hb_Tr_isPattern_110
          refine e_in ⟨by omega, by omega⟩ (by decide) ?_
          rw [tnI (n := x) rfl (by omega), I_A (k := 16), h4]
          show OK _ (ck (inb (I ((x : Nat) : Int)) 8016) (ck (inb (u.2.2.1 18 x) 8016) (br (decide ((u.2.2.1 16 (u.2.2.1 18 x).toNatClampNeg) = 1)) (ck (isb (1 : Int32)) (some (u, (1 : Int32)))) (ck (isb (0 : Int32)) (some (u, (0 : Int32)))))))
          refine e_in ⟨by omega, by omega⟩ (by decide) ?_
          rw [I_A (k := 18), h6]
          refine e_in ⟨by omega, by omega⟩ (by decide) ?_
          rw [tnI (n := m) rfl (by omega), I_A (k := 16), lit1q]
          refine k_eq (A_r u 16 m) ⟨by decide, by decide⟩ (fun e1 => ip1 ?_) (fun _ => ip0)
          cases f with
          | zero => exact h7.elim
          | succ f =>
            obtain ⟨g1, g2, g3, g4⟩ := h7
            rcases g4 with ⟨g4, g5, g6⟩ | ⟨g4, -⟩ | ⟨g4, -⟩ | ⟨g4, -⟩ | ⟨g4, -⟩ | ⟨g4, -⟩ | ⟨g4, -⟩ | ⟨g4, -⟩ | ⟨g4, -⟩ | ⟨g4, -⟩ | ⟨g4, -⟩ | ⟨g4, -⟩ | ⟨g4, -⟩ | ⟨g4, -⟩ | ⟨g4, -⟩ | ⟨g4, -⟩ | ⟨g4, -⟩
            · exact ⟨h1, h2, g6, Or.inr (Or.inl ⟨h4, m, h6, ⟨by omega, by omega, by omega⟩, g4, by rw [← g4.1]; exact e1, by omega, h8.2.1 h4⟩)⟩
            all_goals (exfalso; omega)
        · exact ipK hN (by omega) h4 (by omega) (by omega)
      · exact ipK hN (by omega) h4 (by omega) (by omega)
      · exact ipK hN (by omega) h4 (by omega) (by omega)
      · exact ipK hN (by omega) h4 (by omega) (by omega)
      · exact ipK hN (by omega) h4 (by omega) (by omega)
theorem matched_okcK {S : SF_Pa_matched} (ho : o ≤ 25)
    (hx : ∀ y : Int32, ∀ u c p n q s, PSI u c p n q o s → OK (fun w r => NDQ (fun w m lo hi a b q r => GwK o w m lo hi a b q r ∧ A w 21 m = 0 ∧ (y = 0 → A w 6 lo ≠ 9)) u c p n q o s w r) (S.2.2.2.2.2.2.2.2.2.2.2.2.2.2.1 u y))
    (h : PSI u c p n q o s) (em : UwK 2 o u x lo p a n q0 q) (x0 : A u 21 x = 0) (ha2 : a ≤ 2 * lo) (hN : 10000 ≤ N) : OK (fun w r => NDQ (fun w m _ hi _ b _ r => UwK 3 o w m lo hi a b q0 r ∧ A w 21 m = 0) u c p n q o s w r) (hm_Pa_matched N S u (I ((x : Nat) : Int))) := by
  have hc := h.1.1
  have h2p := h.2.2.1.2
  have hd := Uw_bdK u _ _ _ _ _ _ _ em
  unfold HDc at hd
  have n8 : n ≤ 8000 := by have := h.2.1.2; omega
  have e41 : ∀ (k : Int), (k = 30 ∨ k = 36) → A u 6 p = k → (k = 30 → PAcK u (4 * (26 - o) + 2) x lo p a n q0 q) → OK (fun w r => NDQ (fun w m _ hi _ b _ r => UwK 3 o w m lo hi a b q0 r ∧ A w 21 m = 0) u c p n q o s w r) (hb_Pa_matched_41 N S () u (I ((x : Nat) : Int)) (I k)) := fun k hk ek pa => by
    unfold hb_Pa_matched_41
    obtain ⟨hpc, h2⟩ := PSI_at h (by omega)
    refine ok_lt.mpr ?_
    rw [inc_e h, show u.1 665 = I ((p : Nat) : Int) by rw [I_F (k := 665), h.2.1.1]]
    have g1 : KPG u (wi u 665 ((p + 1 : Nat) : Int)) := KPG_at
    have o1 : OLDc u (wi u 665 ((p + 1 : Nat) : Int)) n s := OLDc.row rfl
    generalize wi u 665 ((p + 1 : Nat) : Int) = v at h2 g1 o1
    have e69 : ∀ K : Int, (K = 20 ∧ k = 30 ∨ K = 21 ∧ k = 36) → OK (fun w r => NDQ (fun w m _ hi _ b _ r => UwK 3 o w m lo hi a b q0 r ∧ A w 21 m = 0) u c p n q o s w r) (hb_Pa_matched_69 N S () v (I ((x : Nat) : Int)) (I ((p : Nat) : Int)) (I K)) := fun K hK => by
      unfold hb_Pa_matched_69
      refine ok_T (ok_mono (hx 0 v c (p + 1) n q s h2) (fun w5 r hw5 => ?_))
      obtain ⟨g5, hw5⟩ := hw5
      cases r with
      | inr k => exact ⟨g1.tr g5, hw5⟩
      | inl x2 =>
        obtain ⟨y, p5, n5, q5, rfl, ol5, hv5, hp5, ey, -, n9⟩ := hw5
        have n9 := n9 rfl
        have hd5 := Gw_bdK w5 _ _ _ _ _ _ _ ey
        unfold HDc at hd5
        have n5b : n5 ≤ 8000 := by have := hv5.2.2.1.2; have := hv5.2.1.2; omega
        have p5c := hv5.2.1.2
        rw [lit0q]
        refine add_B hv5 (by omega) ⟨by omega, by omega⟩ ⟨by omega, by omega⟩ ⟨by omega, by omega⟩ ⟨by omega, by omega⟩ ⟨by decide, by decide⟩ (fun w6 g6 o6 h6 fa => ok_some.mpr ?_)
        obtain ⟨f1, f2, f3, f4, f5, f6⟩ := fa
        have gu6 : KPG u w6 := g1.tr (g5.tr g6)
        have ou6 : OLDc u w6 n s := OLDc.tr o1 (OLDc.tr ol5 o6 (by omega)) (Nat.le_refl _)
        have ey6 : XPcK w6 (4 * (26 - o) + 2) (o + 1) 3 y (p + 1) p5 n n5 q q5 := XP_kK (by omega) (Nat.le_refl _) _ _ _ _ _ _ _ ey (KN_old g6 o6 (Nat.le_refl _))
        refine ⟨gu6, n5 + 1, p5, n5 + 1, q5, rfl, ou6, h6, by omega, ?_, f6⟩
        refine ⟨⟨⟨by omega, by omega⟩, by omega, by omega, by omega, by omega⟩, ⟨p, f2, by omega, by omega⟩, ho, ?_⟩
        rcases hK with ⟨hK, hk3⟩ | ⟨hK, hk6⟩
        · have pa1 := pa hk3
          have eq := PAqK pa1
          have pa2 := PA_kK (w := w6) (Nat.le_refl _) _ _ _ _ _ _ _ pa1 (KN_old gu6 ou6 (Nat.le_refl _))
          rw [← eq] at pa2 ey6
          exact Or.inr (Or.inr (Or.inr (Or.inr (Or.inr (Or.inr (Or.inr (Or.inr (Or.inr (Or.inr (Or.inr (Or.inr (Or.inr (Or.inr (Or.inl ⟨by rw [f1, hK], Nat.le_refl _, x, y, p, n, n5, f3, pa2, f4, ey6, by omega, by rw [gu6.a6, ek]; exact hk3, by rw [g6.a6]; exact n9⟩))))))))))))))
        · exact Or.inr (Or.inr (Or.inr (Or.inr (Or.inr (Or.inr (Or.inr (Or.inr (Or.inr (Or.inr (Or.inr (Or.inr (Or.inr (Or.inr (Or.inr (Or.inl ⟨by rw [f1, hK], Nat.le_refl _, x, y, p, n, n5, q, f3, Uw_stK u w6 _ _ _ _ _ _ _ em (KN_old gu6 ou6 (Nat.le_refl _)), f4, ey6, by omega, by rw [gu6.a6, ek]; exact hk6, by rw [g6.a6]; exact n9⟩)))))))))))))))
    rw [show (30 : Int32) = I 30 from rfl]
    exact k_eq ⟨by omega, by omega⟩ ⟨by decide, by decide⟩ (fun e => e69 20 (Or.inl ⟨rfl, e⟩)) (fun n30 => e69 21 (Or.inr ⟨rfl, by omega⟩))
  have e19 : ∀ (k : Int), (k = 30 ∨ k = 36) → A u 6 p = k → OK (fun w r => NDQ (fun w m _ hi _ b _ r => UwK 3 o w m lo hi a b q0 r ∧ A w 21 m = 0) u c p n q o s w r) (hb_Pa_matched_19 N S () u (I ((x : Nat) : Int)) (I k)) := fun k hk ek => by
    unfold hb_Pa_matched_19
    rw [show (30 : Int32) = I 30 from rfl]
    refine k_eq ⟨by omega, by omega⟩ ⟨by decide, by decide⟩ (fun e => ?_) (fun ne => e41 k hk ek (fun z => absurd z ne))
    refine ok_bnd.mpr (ok_mono (isPat_okK hN (4 * (26 - o) + 2) 300 o 2 x lo p a n q0 q (by omega) em (by omega)) (fun w r2 hw => ?_))
    obtain ⟨rfl, hr⟩ := hw
    rcases hr with rfl | ⟨rfl, hp⟩
    · exact ok_br.mpr ⟨fun _ => refuse_T h (fun w gw => ⟨gw, rfl⟩), fun z => absurd z (by decide)⟩
    · exact ok_br.mpr ⟨fun z => absurd z (by decide), fun _ => e41 k hk ek (fun _ => hp)⟩
  unfold hm_Pa_matched hb_Pa_matched_0
  refine look_T h (fun w gw => ⟨gw, rfl⟩) (fun h45 => ?_)
  rw [show (30 : Int32) = I 30 from rfl, show (36 : Int32) = I 36 from rfl]
  exact k_eq (A_r u 6 p) ⟨by decide, by decide⟩ (fun e => e19 _ (Or.inl e) rfl) (fun _ => k_eq (A_r u 6 p) ⟨by decide, by decide⟩ (fun e => e19 _ (Or.inr e) rfl) (fun _ => ok_some.mpr ⟨KPG.rf, x, p, n, q, rfl, OLDc.rf, h, Nat.le_refl _, XP_kK (by omega) (by omega) _ _ _ _ _ _ _ em (KN_old KPG.rf (OLDc.rf (n := n) (s := 0)) (Nat.le_refl _)), x0⟩))
end
end
section
set_option maxRecDepth 100000
def GRPpK (N d : Nat) : Prop := ∀ o, o ≤ 25 →
  (10 * (25 - o) + 1 ≤ d → ∀ y : Int32, ∀ u c p n q s, PSI u c p n q o s → OK (fun w r => NDQ (fun w m lo hi a b q r => GwK o w m lo hi a b q r ∧ A w 21 m = 0 ∧ (y = 0 → A w 6 lo ≠ 9)) u c p n q o s w r) ((hrc_Pa_matched N d).2.2.2.2.2.2.2.2.2.2.2.2.2.2.1 u y)) ∧
  (10 * (25 - o) + 1 ≤ d → ∀ u c p n q s, PSI u c p n q o s → OK (fun w r => NDQ (fun w m lo hi a b q r => PwK o w m lo hi a b q r ∧ A w 21 m = 0) u c p n q o s w r) ((hrc_Pa_matched N d).2.2.2.2.2.2.2.2.2.2.2.2.2.2.2.2.2.1 u)) ∧
  (10 * (25 - o) + 1 + 1 ≤ d → ∀ most, 1 ≤ most ∧ most ≤ 4000 → ∀ u c p n q s, PSI u c p n q o s → OK (fun w r => NDQ (fun w m lo hi a b q r => ∃ k, (1 ≤ k ∧ k ≤ most) ∧ RWcK w 1 26 (GwK o w) k m lo hi a b q r) u c p n q o s w r) ((hrc_Pa_matched N d).2.2.2.2.2.2.2.2.2.2.2.2.2.2.2.2.2.2.1 u 0 (I ((most : Nat) : Int)))) ∧
  (10 * (25 - o) + 1 + 1 ≤ d → ∀ most, 1 ≤ most ∧ most ≤ 4000 → ∀ u c p n q s, PSI u c p n q o s → OK (fun w r => NDQ (fun w m lo hi a b q r => ∃ k, (1 ≤ k ∧ k ≤ most) ∧ RWcK w 1 26 (PwK o w) k m lo hi a b q r) u c p n q o s w r) ((hrc_Pa_matched N d).2.2.2.2.2.2.2.2.2.2.2.2.2.2.2.2.2.2.1 u 1 (I ((most : Nat) : Int)))) ∧
  (10 * (25 - o) + 1 + 2 ≤ d → ∀ (most : Nat) (K : Int), 1 ≤ most ∧ most ≤ 4000 → 1 ≤ K ∧ K ≤ 44 → ∀ u c p n q s, PSI u c p n q o s → OK (fun w r => NDQ (fun w m lo hi a b q r => (lo + 1 ≤ hi ∧ A w 6 (hi - 1) = K) ∧ ∃ k, k ≤ most ∧ ORcK w 1 26 (GwK o w) k m lo (hi - 1) a b q r) u c p n q o s w r) ((hrc_Pa_matched N d).2.2.2.2.2.2.2.2.2.2.2.2.2.2.2.2.2.2.2 u 0 (I ((most : Nat) : Int)) (I K))) ∧
  (10 * (25 - o) + 1 + 2 ≤ d → ∀ (most : Nat) (K : Int), 1 ≤ most ∧ most ≤ 4000 → 1 ≤ K ∧ K ≤ 44 → ∀ u c p n q s, PSI u c p n q o s → OK (fun w r => NDQ (fun w m lo hi a b q r => (lo + 1 ≤ hi ∧ A w 6 (hi - 1) = K) ∧ ∃ k, k ≤ most ∧ ORcK w 1 26 (PwK o w) k m lo (hi - 1) a b q r) u c p n q o s w r) ((hrc_Pa_matched N d).2.2.2.2.2.2.2.2.2.2.2.2.2.2.2.2.2.2.2 u 1 (I ((most : Nat) : Int)) (I K))) ∧
  (10 * (25 - o) + 1 + 3 ≤ d → ∀ u c p n q s, PSI u c p n q o s → A u 6 p = 22 → OK (fun w r => NDQ (TUQK (GwK o)) u c p n q o s w r) ((hrc_Pa_matched N d).2.2.2.2.2.2.2.2.2.2.2.2.2.2.2.2.1 u 0)) ∧
  (10 * (25 - o) + 1 + 3 ≤ d → ∀ u c p n q s, PSI u c p n q o s → A u 6 p = 22 → OK (fun w r => NDQ (TUQK (PwK o)) u c p n q o s w r) ((hrc_Pa_matched N d).2.2.2.2.2.2.2.2.2.2.2.2.2.2.2.2.1 u 1)) ∧
  (10 * (25 - o) + 1 + 2 ≤ d → ∀ u c p n q s, PSI u c p n q o s → A u 6 p = 24 → OK (fun w r => NDQ (LIQK (GwK o)) u c p n q o s w r) ((hrc_Pa_matched N d).2.2.2.2.2.2.2.2.2.2.2.2.2.2.2.1 u 0)) ∧
  (10 * (25 - o) + 1 + 2 ≤ d → ∀ u c p n q s, PSI u c p n q o s → A u 6 p = 24 → OK (fun w r => NDQ (LIQK (PwK o)) u c p n q o s w r) ((hrc_Pa_matched N d).2.2.2.2.2.2.2.2.2.2.2.2.2.2.2.1 u 1)) ∧
  (10 * (25 - o) + 1 ≤ d → ∀ u c p n q s, PSI u c p n q o s → OK (fun w r => NDQ (fun w m lo hi a b q r => ∃ k, RWcK w 1 26 (BwK o w) k m lo hi a b q r) u c p n q o s w r) ((hrc_Pa_matched N d).2.2.2.2.2.2.2.2.2.1 u)) ∧
  (10 * (25 - o) + 1 + 2 ≤ d → ∀ u c p n q s t k m0 pl ph a, PSI u c p n q o s → t < p → pl ≤ ph ∧ ph ≤ p → ORcK u 1 26 (PwK o u) k m0 pl ph a n q q → OK (fun w r => NDQ (fun w m lo hi a1 b q r => PRTcK w (PwK o w) (BwK o w) (GwK o w) k m pl ph lo hi a b q r ∧ (a1 < m ∧ m = b) ∧ lo + 2 ≤ hi ∧ b + 1 + 2 * lo ≤ a1 + 2 * hi ∧ q ≤ r ∧ 5 * r + lo + 2 ≤ 5 * q + hi ∧ A w 21 m = 0 ∧ A w 17 m = ((t : Nat) : Int)) u c p n q o s w r) ((hrc_Pa_matched N d).2.2.2.2.2.1 u (I ((t : Nat) : Int)) (I ((m0 : Nat) : Int)))) ∧
  (10 * (25 - o) + 1 + 2 ≤ d → ∀ u c p n q s, PSI u c p n q o s → OK (fun w r => NDQ (fun w m lo hi a b q r => CHPcK w (BwK o w) (GwK o w) m lo hi a b q r ∧ A w 21 m = 0) u c p n q o s w r) ((hrc_Pa_matched N d).2.2.2.2.1 u)) ∧
  (10 * (25 - o) + 1 + 3 ≤ d → ∀ u c p n q s, PSI u c p n q o s → OK (fun w r => NDQ (fun w m lo hi a b q r => CSPcK w (PwK o w) (BwK o w) (GwK o w) m lo hi a b q r ∧ A w 21 m = 0) u c p n q o s w r) ((hrc_Pa_matched N d).2.2.2.2.2.2.1 u)) ∧
  (10 * (25 - o) + 1 + 4 ≤ d → ∀ u c p n q s, PSI u c p n q o s → OK (fun w r => NDQ (fun w m lo hi a b q r => ∃ k, RWcK w 1 27 (CHPcK w (BwK o w) (GwK o w)) k m lo hi a b q r) u c p n q o s w r) ((hrc_Pa_matched N d).2.2.2.2.2.2.2.1 u 0)) ∧
  (10 * (25 - o) + 1 + 4 ≤ d → ∀ u c p n q s, PSI u c p n q o s → OK (fun w r => NDQ (fun w m lo hi a b q r => ∃ k, RWcK w 1 27 (CSPcK w (PwK o w) (BwK o w) (GwK o w)) k m lo hi a b q r) u c p n q o s w r) ((hrc_Pa_matched N d).2.2.2.2.2.2.2.1 u 1)) ∧
  (10 * (25 - o) + 1 + 5 ≤ d → ∀ u c p n q s, PSI u c p n q o s → A u 6 p = 8 → OK (fun w r => NDQ (fun w m lo hi a b q r => UwK 0 o w m lo hi a b q r ∧ A w 21 m = 0) u c p n q o s w r) ((hrc_Pa_matched N d).2.2.2.2.2.2.2.2.1 u)) ∧
  (10 * (25 - o) + 1 + 5 ≤ d → ∀ u c p n q s, PSI u c p n q o s → A u 6 p = 17 → OK (fun w r => NDQ (fun w m lo hi a b q r => UwK 0 o w m lo hi a b q r ∧ A w 21 m = 0) u c p n q o s w r) ((hrc_Pa_matched N d).2.2.2.1 u)) ∧
  (10 * (25 - o) + 1 + 3 ≤ d → ∀ u c p n q s, PSI u c p n q o s → A u 6 p = 12 → OK (fun w r => NDQ (fun w m lo hi a b q r => UwK 0 o w m lo hi a b q r ∧ A w 21 m = 0) u c p n q o s w r) ((hrc_Pa_matched N d).2.2.1 u)) ∧
  (10 * (25 - o) + 1 + 3 ≤ d → ∀ u c p n q s, PSI u c p n q o s → A u 6 p = 2 → OK (fun w r => NDQ (fun w m lo hi a b q r => UwK 0 o w m lo hi a b q r ∧ A w 21 m = 0) u c p n q o s w r) ((hrc_Pa_matched N d).2.2.2.2.2.2.2.2.2.2.1 u)) ∧
  (10 * (25 - o) + 1 + 3 ≤ d → ∀ u c p n q s x lo a q0, PSI u c p n q o s → UwK 0 o u x lo p a n q0 q → A u 21 x = 0 → a ≤ 2 * lo → OK (fun w r => NDQ (fun w m _ hi _ b _ r => UwK 1 o w m lo hi a b q0 r ∧ A w 21 m = 0) u c p n q o s w r) ((hrc_Pa_matched N d).2.1 u (I ((x : Nat) : Int)))) ∧
  (10 * (25 - o) + 1 + 6 ≤ d → ∀ u c p n q s, PSI u c p n q o s → OK (fun w r => NDQ (fun w m lo hi a b q r => UwK 0 o w m lo hi a b q r ∧ A w 21 m = 0) u c p n q o s w r) ((hrc_Pa_matched N d).2.2.2.2.2.2.2.2.2.2.2.1 u)) ∧
  (10 * (25 - o) + 1 + 7 ≤ d → ∀ u c p n q s, PSI u c p n q o s → OK (fun w r => NDQ (fun w m lo hi a b q r => UwK 1 o w m lo hi a b q r ∧ A w 21 m = 0) u c p n q o s w r) ((hrc_Pa_matched N d).2.2.2.2.2.2.2.2.2.2.2.2.1 u)) ∧
  (10 * (25 - o) + 1 + 8 ≤ d → ∀ u c p n q s, PSI u c p n q o s → OK (fun w r => NDQ (fun w m lo hi a b q r => UwK 2 o w m lo hi a b q r ∧ A w 21 m = 0) u c p n q o s w r) ((hrc_Pa_matched N d).2.2.2.2.2.2.2.2.2.2.2.2.2.1 u)) ∧
  (10 * (25 - o) + 1 + 1 ≤ d → ∀ u c p n q s x lo a q0, PSI u c p n q o s → UwK 2 o u x lo p a n q0 q → A u 21 x = 0 → a ≤ 2 * lo → OK (fun w r => NDQ (fun w m _ hi _ b _ r => UwK 3 o w m lo hi a b q0 r ∧ A w 21 m = 0) u c p n q o s w r) ((hrc_Pa_matched N d).1 u (I ((x : Nat) : Int))))
section
variable {u v w : MS} {N c p n q o s p2 n2 q2 m a b l lo hi r d most f t x q0 : Nat}
theorem TUxK (ho : o ≤ 25) (h : TUQK (GwK o) w m lo hi a b q r) : UwK 0 o w m lo hi a b q r := by
  obtain ⟨t1, t2, t3, t4, t5, t6⟩ := h
  show XPcK w (4 * (26 - o)) o 0 _ _ _ _ _ _ _
  rw [f_o ho]
  exact ⟨t1, t2, ho, Or.inr (Or.inr (Or.inl ⟨t4, t5, t6⟩))⟩
theorem LIxK (ho : o ≤ 25) (h : LIQK (GwK o) w m lo hi a b q r) : UwK 0 o w m lo hi a b q r := by
  obtain ⟨t1, t2, t3, t4, t5, t6⟩ := h
  show XPcK w (4 * (26 - o)) o 0 _ _ _ _ _ _ _
  rw [f_o ho]
  exact ⟨t1, t2, ho, Or.inr (Or.inr (Or.inr (Or.inl ⟨t4, t5, t6⟩)))⟩
theorem primary_okcK {S : SF_Pa_matched} (ho : o ≤ 25)
    (hx : ∀ u c p n q s, PSI u c p n q o s → OK (fun w r => NDQ (fun w m lo hi a b q r => GwK o w m lo hi a b q r ∧ A w 21 m = 0) u c p n q o s w r) (S.2.2.2.2.2.2.2.2.2.2.2.2.2.2.1 u 1))
    (hb : ∀ u c p n q s, PSI u c p n q o s → OK (fun w r => NDQ (fun w m lo hi a b q r => ∃ k, RWcK w 1 26 (BwK o w) k m lo hi a b q r) u c p n q o s w r) (S.2.2.2.2.2.2.2.2.2.1 u))
    (hp0 : ∀ u c p n q s, PSI u c p n q o s → OK (fun w r => NDQ (fun w m lo hi a b q r => ∃ k, RWcK w 1 27 (CHPcK w (BwK o w) (GwK o w)) k m lo hi a b q r) u c p n q o s w r) (S.2.2.2.2.2.2.2.1 u 0))
    (hca : ∀ u c p n q s, PSI u c p n q o s → A u 6 p = 8 → OK (fun w r => NDQ (fun w m lo hi a b q r => UwK 0 o w m lo hi a b q r ∧ A w 21 m = 0) u c p n q o s w r) (S.2.2.2.2.2.2.2.2.1 u))
    (hre : ∀ u c p n q s, PSI u c p n q o s → A u 6 p = 17 → OK (fun w r => NDQ (fun w m lo hi a b q r => UwK 0 o w m lo hi a b q r ∧ A w 21 m = 0) u c p n q o s w r) (S.2.2.2.1 u))
    (hfu : ∀ u c p n q s, PSI u c p n q o s → A u 6 p = 12 → OK (fun w r => NDQ (fun w m lo hi a b q r => UwK 0 o w m lo hi a b q r ∧ A w 21 m = 0) u c p n q o s w r) (S.2.2.1 u))
    (hac : ∀ u c p n q s, PSI u c p n q o s → A u 6 p = 2 → OK (fun w r => NDQ (fun w m lo hi a b q r => UwK 0 o w m lo hi a b q r ∧ A w 21 m = 0) u c p n q o s w r) (S.2.2.2.2.2.2.2.2.2.2.1 u))
    (htu : ∀ u c p n q s, PSI u c p n q o s → A u 6 p = 22 → OK (fun w r => NDQ (TUQK (GwK o)) u c p n q o s w r) (S.2.2.2.2.2.2.2.2.2.2.2.2.2.2.2.2.1 u 0))
    (hli : ∀ u c p n q s, PSI u c p n q o s → A u 6 p = 24 → OK (fun w r => NDQ (LIQK (GwK o)) u c p n q o s w r) (S.2.2.2.2.2.2.2.2.2.2.2.2.2.2.2.1 u 0))
    (h : PSI u c p n q o s) : OK (fun w r => NDQ (fun w m lo hi a b q r => UwK 0 o w m lo hi a b q r ∧ A w 21 m = 0) u c p n q o s w r) (hm_Pa_primary N S u) := by
  have hc := h.1.1
  have h2p := h.2.2.1.2
  have no : ∀ {f : MS → Unit → Option (MS × (Int32 ⊕ Nat))}, OK (fun w r => NDQ (fun w m lo hi a b q r => UwK 0 o w m lo hi a b q r ∧ A w 21 m = 0) u c p n q o s w r) (bTm (hm_Pa_refuse N u 2) f) := fun {f} => refuse_T h (fun w gw => ⟨gw, rfl⟩)
  have id : ∀ {x : Option (MS × (Int32 ⊕ Nat))}, OK (fun w r => NDQ (fun w m lo hi a b q r => UwK 0 o w m lo hi a b q r ∧ A w 21 m = 0) u c p n q o s w r) x → OK (fun w r => NDQ (fun w m lo hi a b q r => UwK 0 o w m lo hi a b q r ∧ A w 21 m = 0) u c p n q o s w r) (bTm x (fun u4 r4 => some (u4, .inl r4))) := fun {x} hx => ok_T (ok_mono hx (fun w r hw => by
    cases r with
    | inr k => exact hw
    | inl x => exact ok_some.mpr hw))
  have lf : (1 ≤ A u 6 p ∧ A u 6 p ≤ 4 ∧ A u 6 p ≠ 2) → OK (fun w r => NDQ (fun w m lo hi a b q r => UwK 0 o w m lo hi a b q r ∧ A w 21 m = 0) u c p n q o s w r) (bnd (hm_Pa_leaf N u) (fun u3 r3 => some (u3, .inl r3))) := fun h4 => leaf_B h ⟨h4.1, h4.2.1⟩ (fun w gw ow hw lf m0 a61 => ok_some.mpr (by
    have p3c := hw.2.1.2
    refine ⟨gw, n + 1, p + 1, n + 1, q, rfl, ow, hw, by omega, ?_, m0⟩
    show XPcK w (4 * (26 - o)) o 0 _ _ _ _ _ _ _
    rw [f_o ho]
    exact ⟨⟨⟨by omega, by omega⟩, by omega, by omega, by omega, by omega⟩, ⟨p, lf.2.2.1, by omega, by omega⟩, ho, Or.inl ⟨lf, ⟨rfl, fun z => absurd (gw.a6.symm.trans z) h4.2.2⟩, rfl⟩⟩))
  have mo : ∀ {Q1 : MS → Nat → Nat → Nat → Nat → Nat → Nat → Nat → Prop} {x : Option (MS × (Int32 ⊕ Nat))}, (∀ w m lo hi a b q r, Q1 w m lo hi a b q r → UwK 0 o w m lo hi a b q r ∧ A w 21 m = 0) → OK (fun w r => NDQ Q1 u c p n q o s w r) x → OK (fun w r => NDQ (fun w m lo hi a b q r => UwK 0 o w m lo hi a b q r ∧ A w 21 m = 0) u c p n q o s w r) x := fun {Q1 x} hq hx => ok_mono hx (fun w r hw => by
    obtain ⟨gw, hw⟩ := hw
    cases r with
    | inr k => exact ⟨gw, hw⟩
    | inl x =>
      obtain ⟨m, p3, n3, q3, e1, ol3, hv3, hp3, em⟩ := hw
      exact ⟨gw, m, p3, n3, q3, e1, ol3, hv3, hp3, hq _ _ _ _ _ _ _ _ em⟩)
  have dl : ∀ (K1 K2 : Int) (X : MS → Option (MS × (Int32 ⊕ Nat))) (R : MS → Nat → Nat → Nat → Nat → Nat → Nat → Nat → Prop) (f : MS → Int32 → Option (MS × (Int32 ⊕ Nat))), A u 6 p ≠ 0 ∧ A u 6 p ≠ 45 → 1 ≤ K1 ∧ K1 ≤ 44 → (∀ u c p n q s, PSI u c p n q o s → OK (fun w r => NDQ R u c p n q o s w r) (X u)) → (∀ w m lo hi a b q r, R w m lo hi a b q r → HDc m lo hi a b q r) → (∀ w w4 m p3 n3 q3, KPG w w4 → OLDc w w4 n3 s → R w m (p + 1) p3 n n3 q q3 → PSI w4 c (p3 + 1) n3 q3 o s → KPG u w4 → OLDc u w4 n s → p + 1 < p3 → n3 + 2 * p + 3 ≤ n + 2 * p3 → q ≤ q3 → 5 * q3 + p + 2 ≤ 5 * q + p3 → n < m ∧ m ≤ n3 → A w4 6 p3 = K1 → OK (fun w r => NDQ (fun w m lo hi a b q r => UwK 0 o w m lo hi a b q r ∧ A w 21 m = 0) u c p n q o s w r) (f w4 (I ((m : Nat) : Int)))) → OK (fun w r => NDQ (fun w m lo hi a b q r => UwK 0 o w m lo hi a b q r ∧ A w 21 m = 0) u c p n q o s w r) (lt (upI u 665 ((u.1 665) + 1)) (fun w10 => bTm (X w10) (fun u11 r11 => bTm (hm_Pa_need N u11 (I K1)) (fun u12 _ => f u12 r11)))) := by
    intro K1 K2 X R f hk hK hX hR hf
    obtain ⟨hpc, h2⟩ := PSI_at h hk
    refine ok_lt.mpr ?_
    rw [inc_e h]
    have g1 : KPG u (wi u 665 ((p + 1 : Nat) : Int)) := KPG_at
    have o1 : OLDc u (wi u 665 ((p + 1 : Nat) : Int)) n s := OLDc.row rfl
    generalize wi u 665 ((p + 1 : Nat) : Int) = v at h2 g1 o1
    refine ok_T (ok_mono (hX v c (p + 1) n q s h2) (fun w r hw => ?_))
    obtain ⟨gw, hw⟩ := hw
    cases r with
    | inr k => exact ⟨g1.tr gw, hw⟩
    | inl x =>
      obtain ⟨m, p3, n3, q3, rfl, ol3, hv3, hp3, em⟩ := hw
      have hd := hR _ _ _ _ _ _ _ _ em
      unfold HDc at hd
      refine need_T hv3 hK (fun w2 gw2 => ⟨g1.tr (gw.tr gw2), rfl⟩) (fun eK h3 => ?_)
      exact hf w _ m p3 n3 q3 KPG_at (OLDc.row rfl) em h3 (g1.tr (gw.tr KPG_at)) (OLDc.tr o1 (OLDc.tr ol3 (OLDc.row rfl) (by omega)) (Nat.le_refl _)) (by omega) (by omega) (by omega) (by omega) (by omega) eK
  unfold hm_Pa_primary hb_Pa_primary_0
  refine look_T h (fun w gw => ⟨gw, rfl⟩) (fun h45 => ?_)
  refine k_c (y := 1) rfl (A_r u 6 p) ⟨by decide, by decide⟩ (fun e => lf (by omega)) (fun _ => k_c (y := 2) rfl (A_r u 6 p) ⟨by decide, by decide⟩ (fun e => id (hac u c p n q s h e)) (fun _ => k_c (y := 3) rfl (A_r u 6 p) ⟨by decide, by decide⟩ (fun e => lf (by omega)) (fun _ => k_c (y := 4) rfl (A_r u 6 p) ⟨by decide, by decide⟩ (fun e => lf (by omega)) (fun _ => k_c (y := 5) rfl (A_r u 6 p) ⟨by decide, by decide⟩ (fun e => no) (fun _ => k_c (y := 6) rfl (A_r u 6 p) ⟨by decide, by decide⟩ (fun e => no) (fun _ => k_c (y := 7) rfl (A_r u 6 p) ⟨by decide, by decide⟩ (fun e => ?_) (fun _ => k_c (y := 8) rfl (A_r u 6 p) ⟨by decide, by decide⟩ (fun e => id (hca u c p n q s h (by omega))) (fun _ => k_c (y := 9) rfl (A_r u 6 p) ⟨by decide, by decide⟩ (fun e => no) (fun _ => k_c (y := 10) rfl (A_r u 6 p) ⟨by decide, by decide⟩ (fun e => no) (fun _ => k_c (y := 11) rfl (A_r u 6 p) ⟨by decide, by decide⟩ (fun e => no) (fun _ => k_c (y := 12) rfl (A_r u 6 p) ⟨by decide, by decide⟩ (fun e => id (hfu u c p n q s h (by omega))) (fun _ => k_c (y := 13) rfl (A_r u 6 p) ⟨by decide, by decide⟩ (fun e => ?_) (fun _ => k_c (y := 14) rfl (A_r u 6 p) ⟨by decide, by decide⟩ (fun e => no) (fun _ => k_c (y := 15) rfl (A_r u 6 p) ⟨by decide, by decide⟩ (fun e => no) (fun _ => k_c (y := 16) rfl (A_r u 6 p) ⟨by decide, by decide⟩ (fun e => no) (fun _ => k_c (y := 17) rfl (A_r u 6 p) ⟨by decide, by decide⟩ (fun e => id (hre u c p n q s h (by omega))) (fun _ => k_c (y := 18) rfl (A_r u 6 p) ⟨by decide, by decide⟩ (fun e => no) (fun _ => k_c (y := 19) rfl (A_r u 6 p) ⟨by decide, by decide⟩ (fun e => no) (fun _ => k_c (y := 20) rfl (A_r u 6 p) ⟨by decide, by decide⟩ (fun e => ?_) (fun _ => k_c (y := 21) rfl (A_r u 6 p) ⟨by decide, by decide⟩ (fun e => no) (fun _ => k_c (y := 22) rfl (A_r u 6 p) ⟨by decide, by decide⟩ (fun e => id (mo (fun w m lo hi a b q r h => ⟨TUxK ho h, h.2.2.1⟩) (htu u c p n q s h (by omega)))) (fun _ => k_c (y := 23) rfl (A_r u 6 p) ⟨by decide, by decide⟩ (fun e => no) (fun _ => k_c (y := 24) rfl (A_r u 6 p) ⟨by decide, by decide⟩ (fun e => id (mo (fun w m lo hi a b q r h => ⟨LIxK ho h, h.2.2.1⟩) (hli u c p n q s h (by omega)))) (fun _ => no))))))))))))))))))))))))
  · refine dl 11 0 _ (fun w m lo hi a b q r => ∃ k, RWcK w 1 26 (BwK o w) k m lo hi a b q r) (fun u12 r11 => bnd (hm_Tr_add N u12 8 (u.1 665) r11 0 0) (fun u14 r14 => some (u14, .inl r14))) (by omega) (by omega) (fun u c p n q s h => hb u c p n q s h) (fun w m lo hi a b q r hh => by obtain ⟨k, hk⟩ := hh; exact (RW_hdK (Bw_bdK w) hk).1) (fun w w4 m p3 n3 q3 g4 o4 em h4 gu ou b1 b2 b3 b4 b5 eK => ?_)
    have p4c := h4.2.1.2
    have n4b : n3 ≤ 8000 := by have := h4.2.2.1.2; omega
    show OK _ (bnd (hm_Tr_add N w4 _ _ _ _ _) _)
    rw [show u.1 665 = I ((p : Nat) : Int) by rw [I_F (k := 665), h.2.1.1], lit0q, show (8 : Int32) = I 8 from rfl]
    refine add_B h4 (by omega) ⟨by decide, by decide⟩ ⟨by omega, by omega⟩ ⟨by omega, by omega⟩ ⟨by omega, by omega⟩ ⟨by decide, by decide⟩ (fun w6 g6 o6 h6 fa => ok_some.mpr ?_)
    obtain ⟨f1, f2, f3, f4, f5, f6⟩ := fa
    refine ⟨gu.tr g6, n3 + 1, p3 + 1, n3 + 1, q3, rfl, OLDc.tr ou o6 (by omega), h6, by omega, ?_, f6⟩
    show XPcK w6 (4 * (26 - o)) o 0 _ _ _ _ _ _ _
    rw [f_o ho]
    refine ⟨⟨⟨by omega, by omega⟩, by omega, by omega, by omega, by omega⟩, ⟨p, f2, by omega, by omega⟩, ho, Or.inr (Or.inr (Or.inr (Or.inr (Or.inl ⟨f1, ?_⟩))))⟩
    rw [show p3 + 1 - 1 = p3 by omega]
    exact by obtain ⟨k, em⟩ := em; exact ⟨k, m, n3, f3, RW_kK (BXK ho w w6) (Bw_bdK w) em (KN_old (g4.tr g6) (OLDc.tr o4 o6 (Nat.le_refl _)) (Nat.le_refl _)), by omega, (gu.tr g6).a6.trans e, g6.a6.trans eK, f2⟩
  · refine dl 11 0 _ (fun w m lo hi a b q r => ∃ k, RWcK w 1 27 (CHPcK w (BwK o w) (GwK o w)) k m lo hi a b q r) (fun u12 r11 => bnd (hm_Tr_add N u12 10 (u.1 665) 0 r11 0) (fun u14 r14 => some (u14, .inl r14))) (by omega) (by omega) (fun u c p n q s h => hp0 u c p n q s h) (fun w m lo hi a b q r hh => by obtain ⟨k, hk⟩ := hh; exact (RW_hdK CHP_bdK hk).1) (fun w w4 m p3 n3 q3 g4 o4 em h4 gu ou b1 b2 b3 b4 b5 eK => ?_)
    have p4c := h4.2.1.2
    have n4b : n3 ≤ 8000 := by have := h4.2.2.1.2; omega
    show OK _ (bnd (hm_Tr_add N w4 _ _ _ _ _) _)
    rw [show u.1 665 = I ((p : Nat) : Int) by rw [I_F (k := 665), h.2.1.1], lit0q, show (10 : Int32) = I 10 from rfl]
    refine add_B h4 (by omega) ⟨by decide, by decide⟩ ⟨by omega, by omega⟩ ⟨by omega, by omega⟩ ⟨by omega, by omega⟩ ⟨by decide, by decide⟩ (fun w6 g6 o6 h6 fa => ok_some.mpr ?_)
    obtain ⟨f1, f2, f3, f4, f5, f6⟩ := fa
    refine ⟨gu.tr g6, n3 + 1, p3 + 1, n3 + 1, q3, rfl, OLDc.tr ou o6 (by omega), h6, by omega, ?_, f6⟩
    show XPcK w6 (4 * (26 - o)) o 0 _ _ _ _ _ _ _
    rw [f_o ho]
    refine ⟨⟨⟨by omega, by omega⟩, by omega, by omega, by omega, by omega⟩, ⟨p, f2, by omega, by omega⟩, ho, Or.inr (Or.inr (Or.inr (Or.inr (Or.inr (Or.inr (Or.inl ⟨f1, ?_⟩))))))⟩
    rw [show p3 + 1 - 1 = p3 by omega]
    exact by obtain ⟨k, em⟩ := em; exact ⟨k, m, n3, f4, RW_kK (HXK ho w w6) CHP_bdK em (KN_old (g4.tr g6) (OLDc.tr o4 o6 (Nat.le_refl _)) (Nat.le_refl _)), by omega, (gu.tr g6).a6.trans e, g6.a6.trans eK, f2⟩
  · refine dl 21 0 _ (fun w m lo hi a b q r => GwK o w m lo hi a b q r ∧ A w 21 m = 0) (fun u12 r11 => bnd (hm_Tr_add N u12 5 (u.1 665) r11 0 0) (fun u14 r14 => some (u14, .inl r14))) (by omega) (by omega) (fun u c p n q s h => hx u c p n q s h) (fun w m lo hi a b q r hh => Gw_bdK w _ _ _ _ _ _ _ hh.1) (fun w w4 m p3 n3 q3 g4 o4 em h4 gu ou b1 b2 b3 b4 b5 eK => ?_)
    have p4c := h4.2.1.2
    have n4b : n3 ≤ 8000 := by have := h4.2.2.1.2; omega
    show OK _ (bnd (hm_Tr_add N w4 _ _ _ _ _) _)
    rw [show u.1 665 = I ((p : Nat) : Int) by rw [I_F (k := 665), h.2.1.1], lit0q, show (5 : Int32) = I 5 from rfl]
    refine add_B h4 (by omega) ⟨by decide, by decide⟩ ⟨by omega, by omega⟩ ⟨by omega, by omega⟩ ⟨by omega, by omega⟩ ⟨by decide, by decide⟩ (fun w6 g6 o6 h6 fa => ok_some.mpr ?_)
    obtain ⟨f1, f2, f3, f4, f5, f6⟩ := fa
    refine ⟨gu.tr g6, n3 + 1, p3 + 1, n3 + 1, q3, rfl, OLDc.tr ou o6 (by omega), h6, by omega, ?_, f6⟩
    show XPcK w6 (4 * (26 - o)) o 0 _ _ _ _ _ _ _
    rw [f_o ho]
    refine ⟨⟨⟨by omega, by omega⟩, by omega, by omega, by omega, by omega⟩, ⟨p, f2, by omega, by omega⟩, ho, Or.inr (Or.inl ⟨f1, ?_⟩)⟩
    rw [show p3 + 1 - 1 = p3 by omega]
    exact ⟨m, n3, f3, GXK w w6 _ _ _ _ _ _ _ em.1 (KN_old (g4.tr g6) (OLDc.tr o4 o6 (Nat.le_refl _)) (Nat.le_refl _)), by omega, (gu.tr g6).a6.trans e, g6.a6.trans eK, f2⟩
theorem begU9 {k : Int} (hk : 0 ≤ k ∧ k ≤ 45) : ∃ r, hm_Pa_beginsUnit N u (I k) = some (u, r) ∧ (k = 9 → r = 0) := by
  obtain ⟨r, e⟩ := begU (N := N) (u := u) hk
  refine ⟨r, e, fun h9 => ?_⟩
  subst h9
  have e2 : hm_Pa_beginsUnit N u (I 9) = some (u, 0) := rfl
  rw [e2] at e
  injection e with e
  injection e with e3 e4
  exact e4.symm
theorem dropE {x : Option (MS × (Int32 ⊕ Nat))} {Y : MS → Nat → Nat → Prop} {G : MS → Nat → Nat → Nat → Nat → Nat → Nat → Nat → Prop} (h : OK (fun w r => NDQ (fun w m lo hi a b q r => G w m lo hi a b q r ∧ A w 21 m = 0 ∧ Y w m lo) u c p n q o s w r) x) : OK (fun w r => NDQ (fun w m lo hi a b q r => G w m lo hi a b q r ∧ A w 21 m = 0) u c p n q o s w r) x := ok_mono h (fun w r hw => by
  obtain ⟨gw, hw⟩ := hw
  cases r with
  | inr k => exact ⟨gw, hw⟩
  | inl x =>
    obtain ⟨m, p3, n3, q3, e1, ol3, hv3, hp3, e2, e3, e4⟩ := hw
    exact ⟨gw, m, p3, n3, q3, e1, ol3, hv3, hp3, e2, e3⟩)
theorem expression_okcK {S : SF_Pa_matched} {y : Int32} (ho : o ≤ 25)
    (hx : o < 25 → ∀ u c p n q s, PSI u c p n q (o + 1) s → OK (fun w r => NDQ (fun w m lo hi a b q r => GwK (o + 1) w m lo hi a b q r ∧ A w 21 m = 0) u c p n q (o + 1) s w r) (S.2.2.2.2.2.2.2.2.2.2.2.2.2.2.1 u 1))
    (hs : o < 25 → ∀ u c p n q s, PSI u c p n q (o + 1) s → OK (fun w r => NDQ (fun w m lo hi a b q r => UwK 2 (o + 1) w m lo hi a b q r ∧ A w 21 m = 0) u c p n q (o + 1) s w r) (S.2.2.2.2.2.2.2.2.2.2.2.2.2.1 u))
    (hm : o < 25 → ∀ u c p n q s x lo a q0, PSI u c p n q (o + 1) s → UwK 2 (o + 1) u x lo p a n q0 q → A u 21 x = 0 → a ≤ 2 * lo → OK (fun w r => NDQ (fun w m _ hi _ b _ r => UwK 3 (o + 1) w m lo hi a b q0 r ∧ A w 21 m = 0) u c p n q (o + 1) s w r) (S.1 u (I ((x : Nat) : Int))))
    (h : PSI u c p n q o s) : OK (fun w r => NDQ (fun w m lo hi a b q r => GwK o w m lo hi a b q r ∧ A w 21 m = 0 ∧ (y = 0 → A w 6 lo ≠ 9)) u c p n q o s w r) (hm_Pa_expression N S u y) := by
  have hc := h.1.1
  have h2p := h.2.2.1.2
  have fe : 26 - (o + 1) = 25 - o := by omega
  have fin : ∀ (w : MS) (m p3 n3 q3 : Nat), KPG u w → OLDc u w n s → PSI w c p3 n3 q3 (o + 1) s → p ≤ p3 → GwK o w m p p3 n n3 q q3 → A w 21 m = 0 → (y = 0 → A w 6 p ≠ 9) → OK (fun w r => NDQ (fun w m lo hi a b q r => GwK o w m lo hi a b q r ∧ A w 21 m = 0 ∧ (y = 0 → A w 6 lo ≠ 9)) u c p n q o s w r) (hb_Pa_expression_84 N S () w (I ((m : Nat) : Int))) := by
    intro w m p3 n3 q3 gw ow hw hp3 em m0 h9
    obtain ⟨e, hw2⟩ := close_e hw
    unfold hb_Pa_expression_84
    refine ok_lt.mpr (ok_some.mpr ?_)
    rw [e]
    exact ⟨gw.tr KPG_op, m, p3, n3, q3, rfl, OLDc.tr ow (OLDc.row rfl) (Nat.le_refl _), hw2, hp3, Gw_stK w _ _ _ _ _ _ _ _ em (KN_old KPG_op (OLDc.row (n := n3) (s := 0) rfl) (Nat.le_refl _)), m0, h9⟩
  have e28 : ∀ t1, A u 6 p ≠ 45 → (y = 0 → t1 ≠ 0 → A u 6 p ≠ 9) → OK (fun w r => NDQ (fun w m lo hi a b q r => GwK o w m lo hi a b q r ∧ A w 21 m = 0 ∧ (y = 0 → A w 6 lo ≠ 9)) u c p n q o s w r) (hb_Pa_expression_28 N S () u (I (A u 6 p)) t1) := fun t1 h45 hy => by
    unfold hb_Pa_expression_28
    refine opens_T h (fun w gw => ⟨gw, rfl⟩) (fun ht1 ho25 h2 => ?_)
    have g1 : KPG u (wi u 666 ((o + 1 : Nat) : Int)) := KPG_op
    have o1 : OLDc u (wi u 666 ((o + 1 : Nat) : Int)) n s := OLDc.row rfl
    have a6 : A (wi u 666 ((o + 1 : Nat) : Int)) 6 p = A u 6 p := rfl
    generalize wi u 666 ((o + 1 : Nat) : Int) = v at h2 g1 o1 a6
    refine k_c (y := 9) rfl (A_r u 6 p) ⟨by decide, by decide⟩ (fun e => ok_lt.mpr ?_) (fun _ => ?_)
    · obtain ⟨hpc, h3⟩ := PSI_at h2 (by rw [a6]; omega)
      rw [inc_e h2, show v.1 665 = I ((p : Nat) : Int) by rw [I_F (k := 665), h2.2.1.1]]
      have g2 : KPG v (wi v 665 ((p + 1 : Nat) : Int)) := KPG_at
      have o2 : OLDc v (wi v 665 ((p + 1 : Nat) : Int)) n s := OLDc.row rfl
      generalize wi v 665 ((p + 1 : Nat) : Int) = v2 at h3 g2 o2
      refine ok_T (ok_mono (hx ho25 v2 c (p + 1) n q s h3) (fun w r hw => ?_))
      obtain ⟨gw, hw⟩ := hw
      cases r with
      | inr k => exact ⟨g1.tr (g2.tr gw), hw⟩
      | inl x =>
        obtain ⟨m, p3, n3, q3, rfl, ol3, hv3, hp3, em, -⟩ := hw
        have hd := Gw_bdK w _ _ _ _ _ _ _ em
        unfold HDc at hd
        have n3b : n3 ≤ 8000 := by have := hv3.2.2.1.2; have := hv3.2.1.2; omega
        have p3c := hv3.2.1.2
        rw [lit0q, show (19 : Int32) = I 19 from rfl]
        refine add_B hv3 (by omega) ⟨by decide, by decide⟩ ⟨by omega, by omega⟩ ⟨by omega, by omega⟩ ⟨by decide, by decide⟩ ⟨by decide, by decide⟩ (fun w4 g4 o4 h4 fa => ?_)
        obtain ⟨f1, f2, f3, f4, f5, f6⟩ := fa
        refine fin w4 (n3 + 1) p3 (n3 + 1) q3 (g1.tr (g2.tr (gw.tr g4))) (OLDc.tr (OLDc.tr o1 o2 (Nat.le_refl _)) (OLDc.tr ol3 o4 (by omega)) (Nat.le_refl _)) h4 (by omega) ?_ f6 (fun z => by rw [(g1.tr (g2.tr (gw.tr g4))).a6]; exact hy z ht1)
        show XPcK w4 ((4 * (25 - o) + 2) + 1) (o + 1) 3 _ _ _ _ _ _ _
        exact ⟨⟨⟨by omega, by omega⟩, by omega, by omega, by omega, by omega⟩, ⟨p, f2, by omega, by omega⟩, by omega, Or.inr (Or.inr (Or.inr (Or.inr (Or.inr (Or.inr (Or.inr (Or.inr (Or.inr (Or.inr (Or.inr (Or.inr (Or.inr (Or.inl ⟨f1, Nat.le_refl _, m, n3, f3, XP_kK (by omega) (Nat.le_refl _) _ _ _ _ _ _ _ em (KN_old g4 o4 (Nat.le_refl _)), by omega, (g1.tr (g2.tr (gw.tr g4))).a6.trans e⟩)))))))))))))⟩
    · refine ok_T (ok_mono (hs ho25 v c p n q s h2) (fun w r hw => ?_))
      obtain ⟨gw, hw⟩ := hw
      cases r with
      | inr k => exact ⟨g1.tr gw, hw⟩
      | inl x =>
        obtain ⟨m, p3, n3, q3, rfl, ol3, hv3, hp3, em, m0⟩ := hw
        have hd := (Uw_bdK w _ _ _ _ _ _ _ em).1
        refine ok_T (ok_mono (hm ho25 w c p3 n3 q3 s m p n q hv3 em m0 h2p) (fun w2 r hw2 => ?_))
        obtain ⟨gw2, hw2⟩ := hw2
        cases r with
        | inr k => exact ⟨g1.tr (gw.tr gw2), hw2⟩
        | inl x =>
          obtain ⟨m2, p4, n4, q4, rfl, ol4, hv4, hp4, em2, m20⟩ := hw2
          refine fin w2 m2 p4 n4 q4 (g1.tr (gw.tr gw2)) (OLDc.tr o1 (OLDc.tr ol3 ol4 (by omega)) (Nat.le_refl _)) hv4 (by omega) ?_ m20 (fun z => by rw [(g1.tr (gw.tr gw2)).a6]; exact hy z ht1)
          have em3 : XPcK w2 (4 * (26 - (o + 1)) + 3) (o + 1) 3 m2 p p4 n n4 q q4 := em2
          rw [fe] at em3
          exact em3
  unfold hm_Pa_expression hb_Pa_expression_0 hb_Pa_expression_23 hb_Pa_expression_27
  refine look_T h (fun w gw => ⟨gw, rfl⟩) (fun h45 => ?_)
  obtain ⟨r6, e6, e69⟩ := begU9 (N := N) (u := u) (tk_rng h.1 h.2.1.2)
  rw [e6, bnd_so]
  exact ok_br.mpr ⟨fun _ => ok_br.mpr ⟨fun _ => e28 _ h45 (fun _ z => absurd rfl z), fun zy => ok_br.mpr ⟨fun _ => e28 _ h45 (fun z _ => absurd z (of_decide_eq_false zy)), fun _ => e28 _ h45 (fun _ z => absurd rfl z)⟩⟩, fun zr => e28 _ h45 (fun _ _ z => of_decide_eq_false zr (e69 z))⟩
theorem grpP_okK (hN : 10000 ≤ N) : ∀ d, GRPpK N d := by
  intro d
  induction d with
  | zero =>
    intro o ho
    refine ⟨fun hh => absurd hh (by omega), fun hh => absurd hh (by omega), fun hh => absurd hh (by omega), fun hh => absurd hh (by omega), fun hh => absurd hh (by omega), fun hh => absurd hh (by omega), fun hh => absurd hh (by omega), fun hh => absurd hh (by omega), fun hh => absurd hh (by omega), fun hh => absurd hh (by omega), fun hh => absurd hh (by omega), fun hh => absurd hh (by omega), fun hh => absurd hh (by omega), fun hh => absurd hh (by omega), fun hh => absurd hh (by omega), fun hh => absurd hh (by omega), fun hh => absurd hh (by omega), fun hh => absurd hh (by omega), fun hh => absurd hh (by omega), fun hh => absurd hh (by omega), fun hh => absurd hh (by omega), fun hh => absurd hh (by omega), fun hh => absurd hh (by omega), fun hh => absurd hh (by omega), fun hh => absurd hh (by omega)⟩
  | succ d ih =>
    intro o ho
    obtain ⟨hE, hP, hR0, hR1, hU0, hU1, hT0, hT1, hL0, hL1, hB, hPT, hC, hO, hS0, hS1, hCA, hRE, hF, hAC, hAP, hPR, hUN, hSI, hM⟩ := ih o ho
    have nx : o < 25 → o + 1 ≤ 25 := fun z => z
    have P1 : o < 25 → 26 - (o + 1) = 25 - o := fun _ => by omega
    refine ⟨fun hd y u c p n q s h => ?_, fun hd u c p n q s h => ?_, fun hd most hm u c p n q s h => ?_, fun hd most hm u c p n q s h => ?_, fun hd most K hm hK u c p n q s h => ?_, fun hd most K hm hK u c p n q s h => ?_, fun hd u c p n q s h hk => ?_, fun hd u c p n q s h hk => ?_, fun hd u c p n q s h hk => ?_, fun hd u c p n q s h hk => ?_, fun hd u c p n q s h => ?_, fun hd u c p n q s t k m0 pl ph a h ht hpl em => ?_, fun hd u c p n q s h => ?_, fun hd u c p n q s h => ?_, fun hd u c p n q s h => ?_, fun hd u c p n q s h => ?_, fun hd u c p n q s h hk => ?_, fun hd u c p n q s h hk => ?_, fun hd u c p n q s h hk => ?_, fun hd u c p n q s h hk => ?_, fun hd u c p n q s x lo a q0 h hx x0 ha => ?_, fun hd u c p n q s h => ?_, fun hd u c p n q s h => ?_, fun hd u c p n q s h => ?_, fun hd u c p n q s x lo a q0 h hx x0 ha => ?_⟩
    · exact expression_okcK ho (fun z u c p n q s h => dropE ((ih (o + 1) z).1 (by omega) 1 u c p n q s h)) (fun z => (ih (o + 1) z).2.2.2.2.2.2.2.2.2.2.2.2.2.2.2.2.2.2.2.2.2.2.2.1 (by omega)) (fun z => (ih (o + 1) z).2.2.2.2.2.2.2.2.2.2.2.2.2.2.2.2.2.2.2.2.2.2.2.2 (by omega)) h
    · refine pattern_okcK ho (fun z u c p n q s h => ?_) (fun z u c p n q s h hk => ?_) (fun z u c p n q s h hk => ?_) h hN
      · have e := (ih (o + 1) z).2.1 (by omega) u c p n q s h
        unfold PwK at e
        rw [P1 z] at e
        exact e
      · have e := (ih (o + 1) z).2.2.2.2.2.2.2.1 (by omega) u c p n q s h hk
        have e2 : (PwK (o + 1)) = (fun w => PAcK w (25 - o)) := by funext w; unfold PwK; rw [P1 z]
        rw [e2] at e
        exact e
      · have e := (ih (o + 1) z).2.2.2.2.2.2.2.2.2.1 (by omega) u c p n q s h hk
        have e2 : (PwK (o + 1)) = (fun w => PAcK w (25 - o)) := by funext w; unfold PwK; rw [P1 z]
        rw [e2] at e
        exact e
    · exact row_okcK (Ew := GwK o) Gw_stK Gw_bdK hm (fun _ u c p n q s h => dropE (hE (by omega) 1 u c p n q s h)) (fun z => absurd rfl z) h hN
    · exact row_okcK (y := 1) (Ew := PwK o) Pw_stK Pw_bdK hm (fun z => absurd z (by decide)) (fun _ => hP (by omega)) h hN
    · exact rowUpTo_okcK (Ew := GwK o) Gw_stK Gw_bdK hK (hR0 (by omega) most hm) h
    · exact rowUpTo_okcK (Ew := PwK o) Pw_stK Pw_bdK hK (hR1 (by omega) most hm) h
    · exact tuple_okcK (Ew := GwK o) Gw_stK Gw_bdK (hU0 (by omega) 8 23 (by omega) (by omega)) h hk hN
    · exact tuple_okcK (Ew := PwK o) Pw_stK Pw_bdK (hU1 (by omega) 8 23 (by omega) (by omega)) h hk hN
    · exact list_okcK (Ew := GwK o) Gw_stK Gw_bdK (fun _ u c p n q s h => dropE (hE (by omega) 1 u c p n q s h)) (fun z => absurd rfl z) (hR0 (by omega) 8 (by omega)) h hk hN
    · exact list_okcK (y := 1) (Ew := PwK o) Pw_stK Pw_bdK (fun z => absurd z (by decide)) (fun _ => hP (by omega)) (hR1 (by omega) 8 (by omega)) h hk hN
    · refine body_okcK (fun z u c p n q s h => ?_) h
      have e := (ih (o + 1) z).2.2.1 (by omega) 4000 (by omega) u c p n q s h
      have e2 : GwK (o + 1) = BwK o := by funext w; unfold GwK BwK; rw [show 25 - (o + 1) = 24 - o by omega]
      rw [e2] at e
      exact e
    · exact part_okcK (hR0 (by omega) 4000 (by omega)) (hB (by omega)) h ht hpl em
    · exact choice_okcK (hR0 (by omega) 4000 (by omega)) (hB (by omega)) h
    · exact oneCase_okcK (N := N) (hP (by omega)) (hPT (by omega)) h
    · exact parts_okcK (Ew := fun w => CHPcK w (BwK o w) (GwK o w)) (fun u w => CHP_kK (Bw_stK u w) (Gw_stK u w) (Bw_bdK u) (Gw_bdK u)) (fun u => CHP_bdK) (fun _ => hC (by omega)) (fun z => absurd rfl z) h hN
    · exact parts_okcK (y := 1) (Ew := fun w => CSPcK w (PwK o w) (BwK o w) (GwK o w)) (fun u w => CSP_kK (Pw_stK u w) (Bw_stK u w) (Gw_stK u w) (Pw_bdK u) (Bw_bdK u) (Gw_bdK u)) (fun u => CSP_bdK) (fun z => absurd z (by decide)) (fun _ => hO (by omega)) h hN
    · exact caseOf_okcK ho (fun u c p n q s h => dropE (hE (by omega) 1 u c p n q s h)) (hS1 (by omega)) h hk
    · exact receive_okcK ho (fun u c p n q s h => dropE (hE (by omega) 1 u c p n q s h)) (hS1 (by omega)) (hB (by omega)) h hk
    · exact fun_okcK ho (hU1 (by omega) 6 21 (by omega) (by omega)) (hPT (by omega)) h hk
    · exact atomOrCall_okcK ho (hU0 (by omega) 6 21 (by omega) (by omega)) h hk hN
    · exact applied_okcK ho (hU0 (by omega) 6 21 (by omega) (by omega)) h hx x0 ha hN
    · exact primary_okcK ho (fun u c p n q s h => dropE (hE (by omega) 1 u c p n q s h)) (hB (by omega)) (hS0 (by omega)) (hCA (by omega)) (hRE (by omega)) (hF (by omega)) (hAC (by omega)) (hT0 (by omega)) (hL0 (by omega)) h
    · exact unit_okcK ho (fun z => (ih (o + 1) z).2.2.2.2.2.2.2.2.2.2.2.2.2.2.2.2.2.2.2.2.2.2.1 (by omega)) (hPR (by omega)) (hAP (by omega)) h
    · exact signed_okcK ho (hUN (by omega)) h hN
    · exact matched_okcK ho (hE (by omega)) h hx x0 ha hN
end
end
section
set_option maxRecDepth 100000
def CLScK (u : MS) (n lo hi a b q r : Nat) : Prop := HDc n lo hi a b q r ∧ lo + 5 ≤ hi ∧ A u 17 n = ((lo : Nat) : Int) ∧ A u 6 lo = 2 ∧ ∃ k ph, (k ≤ 6 ∧ A u 6 (lo + 1) = 20 ∧ A u 6 ph = 21) ∧ PRTcK u (PwK 0 u) (BwK 0 u) (GwK 0 u) k n (lo + 2) ph (ph + 1) hi a b q r
def FNScK (u : MS) : Nat → Nat → Nat → Nat → Prop
  | 0 => fun p n q => p = 0 ∧ n = 0 ∧ q = 0
  | g + 1 => fun p n q => ∃ p0 n0 q0 kc k first : Nat, FNScK u g p0 n0 q0 ∧ (p0 + 6 ≤ p ∧ A u 6 (p - 1) = 28) ∧ RWcK u 1 27 (CLScK u) kc first p0 (p - 1) n0 n q0 q ∧ (A u 27 g = ((first : Nat) : Int) ∧ A u 25 g = ((k : Nat) : Int) ∧ k ≤ 6 ∧ A u 24 g = A u 7 p0)
section
variable {u v w : MS} {N c p n q o s p2 n2 q2 m a b l lo hi r d most f t x q0 g z : Nat}
theorem CLS_bdK : BdE (CLScK u) := fun _ _ _ _ _ _ _ h => h.1
theorem CLS_kK (u w : MS) : StE u w (CLScK u) (CLScK w) := fun n lo hi a b q r h kn => by
  obtain ⟨h1, h2, h3, h4, k, ph, h5, h6⟩ := h
  obtain ⟨g1, g2, g3, g4, g5⟩ := kn.g h1.1
  exact ⟨h1, h2, by rw [g2]; exact h3, by show (w.2.2.1 6 lo).toInt = _; rw [kn.1.1]; exact h4, k, ph, ⟨h5.1, by rw [kn.a6]; exact h5.2.1, by rw [kn.a6]; exact h5.2.2⟩, PRT_kK (Pw_stK u w) (Bw_stK u w) (Gw_stK u w) (Pw_bdK u) (Bw_bdK u) (Gw_bdK u) h6 kn⟩
theorem RW_cntK {E : Nat → Nat → Nat → Nat → Nat → Nat → Nat → Prop} (hb : BdE E) : ∀ {k n lo hi a b q r : Nat}, RWcK u d z E k n lo hi a b q r → k + a ≤ b
  | 0, _, _, _, _, _, _, _, h => h.elim
  | k + 1, n, lo, hi, a, b, q, r, h => by
    obtain ⟨m, c, s, e, h⟩ := h
    have g := (hb _ _ _ _ _ _ _ e).1
    rcases h with ⟨h1, -, -, h2, -⟩ | ⟨h1, n2, -, h3⟩
    · omega
    · have := RW_cntK hb h3; omega
theorem FNS_kK (e6 : w.2.2.1 6 = u.2.2.1 6) (e7 : w.2.2.1 7 = u.2.2.1 7) : ∀ {g p n q : Nat}, (∀ k, k ≤ n → A w 16 k = A u 16 k ∧ A w 17 k = A u 17 k ∧ A w 18 k = A u 18 k ∧ A w 19 k = A u 19 k ∧ A w 20 k = A u 20 k ∧ A w 21 k = A u 21 k) → (∀ f, f < g → A w 24 f = A u 24 f ∧ A w 25 f = A u 25 f ∧ A w 27 f = A u 27 f) → FNScK u g p n q → FNScK w g p n q
  | 0, _, _, _, _, _, h => h
  | g + 1, p, n, q, hn, hg, h => by
    obtain ⟨p0, n0, q0, kc, k, first, h1, h2, h3, h4, h5, h6, h7⟩ := h
    have rh := (RW_hdK CLS_bdK h3).1.1
    obtain ⟨g1, g2, g3⟩ := hg g (by omega)
    have a7 : A w 7 p0 = A u 7 p0 := by show (w.2.2.1 7 p0).toInt = _; rw [e7]; rfl
    refine ⟨p0, n0, q0, kc, k, first, FNS_kK e6 e7 (fun k hk => hn k (by omega)) (fun f hf => hg f (by omega)) h1, ⟨h2.1, by show (w.2.2.1 6 _).toInt = _; rw [e6]; exact h2.2⟩, RW_kK (CLS_kK u w) CLS_bdK h3 ⟨⟨e6, e7⟩, fun k k1 k2 => ?_⟩, by rw [g3]; exact h4, by rw [g2]; exact h5, h6, by rw [g1, a7]; exact h7⟩
    obtain ⟨b1, b2, b3, b4, b5, b6⟩ := hn k k2
    exact ⟨⟨b1, b2, b3, b4, b5⟩, fun _ => b6⟩
theorem clause_okcK (h : PSI u c p n q 0 s) (hN : 10000 ≤ N) : OK (fun w r => NDQ (fun w m lo hi a b q r => CLScK w m lo hi a b q r ∧ A w 21 m = 0) u c p n q 0 s w r) (hm_Pa_clause N u) := by
  have hc := h.1.1
  have h2p := h.2.2.1.2
  obtain ⟨-, -, -, -, -, hU1, -, -, -, -, -, hPT, -⟩ := grpP_okK hN 300 0 (by omega)
  unfold hm_Pa_clause hb_Pa_clause_0
  rw [show (2 : Int32) = I 2 from rfl]
  refine need_T h (by omega) (fun w gw => ⟨gw, rfl⟩) (fun ea h2 => ?_)
  have g1 : KPG u (wi u 665 ((p + 1 : Nat) : Int)) := KPG_at
  have o1 : OLDc u (wi u 665 ((p + 1 : Nat) : Int)) n s := OLDc.row rfl
  generalize wi u 665 ((p + 1 : Nat) : Int) = v at h2 g1 o1
  rw [show (20 : Int32) = I 20 from rfl]
  refine need_T h2 (by omega) (fun w gw => ⟨g1.tr gw, rfl⟩) (fun e20 h3 => ?_)
  have g3 : KPG v (wi v 665 ((p + 1 + 1 : Nat) : Int)) := KPG_at
  have o3 : OLDc v (wi v 665 ((p + 1 + 1 : Nat) : Int)) n s := OLDc.row rfl
  generalize wi v 665 ((p + 1 + 1 : Nat) : Int) = w1 at h3 g3 o3
  refine ok_T (ok_mono (hU1 (by omega) 6 21 (by omega) (by omega) w1 c (p + 1 + 1) n q s h3) (fun w5 r hw5 => ?_))
  obtain ⟨g5, hw5⟩ := hw5
  cases r with
  | inr k => exact ⟨g1.tr (g3.tr g5), hw5⟩
  | inl x2 =>
    obtain ⟨mp, p5, n5, q5, rfl, ol5, hv5, hp5, hlo, k, hk6, em⟩ := hw5
    have oh := OR_hdK (Pw_bdK w5) em
    have eq : q = q5 := ORqK (fun _ _ _ _ _ _ _ h => PAqK h) em
    subst eq
    refine ok_T (ok_mono (hPT (by omega) w5 c p5 n5 q s p k mp (p + 1 + 1) (p5 - 1) n hv5 (by omega) (by omega) em) (fun w6 r hw6 => ?_))
    obtain ⟨g6, hw6⟩ := hw6
    cases r with
    | inr k => exact ⟨g1.tr (g3.tr (g5.tr g6)), hw6⟩
    | inl x2 =>
      obtain ⟨m2, p7, n7, q7, rfl, ol7, hv7, hp7, e1, e2, e3, e4, e5, e6, e7, e8⟩ := hw6
      have gu : KPG u w6 := g1.tr (g3.tr (g5.tr g6))
      refine ok_some.mpr ⟨gu, m2, p7, n7, q7, rfl, OLDc.tr o1 (OLDc.tr o3 (OLDc.tr ol5 ol7 (by omega)) (Nat.le_refl _)) (Nat.le_refl _), hv7, by omega, ⟨⟨⟨by omega, by omega⟩, by omega, by omega, by omega, by omega⟩, by omega, e8, by rw [gu.a6]; exact ea, k, p5 - 1, ⟨hk6, (g3.tr (g5.tr g6)).a6.trans e20, g6.a6.trans hlo.2⟩, ?_⟩, e7⟩
      rw [show p5 - 1 + 1 = p5 by omega]
      exact e1
def PFIK (u v : MS) (c g p n q : Nat) : Prop := KPH u v ∧ PSI v c p n q 0 0 ∧ F v 442 = ((g : Nat) : Int) ∧ 6 * g ≤ p ∧ FNScK v g p n q
theorem oneFunction_okcK (h : PFIK u v c g p n q) (hN : 10000 ≤ N) : OK (fun w r => KPH u w ∧ match r with
    | .inr k => k = 3
    | .inl _ => ∃ p2 n2 q2, PFIK u w c (g + 1) p2 n2 q2 ∧ p < p2) (hm_Pa_oneFunction N v) := by
  obtain ⟨ku, hv, e442, hg6, fns⟩ := h
  have hc := hv.1.1
  have h2p := hv.2.2.1.2
  have pc0 := hv.2.1.2
  have e58 : ∀ (M k first l pp nn qq : Nat) (w : MS), KPG v w → OLDc v w n 0 → PSI w c pp nn qq 0 0 → p + 5 ≤ pp → RPcK w 1 27 (CLScK w) k first l p pp n nn q qq → A w 21 l = 0 → OK (fun w r => KPH u w ∧ match r with
    | .inr k => k = 3
    | .inl _ => ∃ p2 n2 q2, PFIK u w c (g + 1) p2 n2 q2 ∧ p < p2) (hb_Pa_oneFunction_58 N (hg_Pa_oneFunction N M) w (I ((p : Nat) : Int)) (I ((first : Nat) : Int))) := by
    intro M k first l pp nn qq w gw ow hw hpp rp l0
    unfold hb_Pa_oneFunction_58
    rw [show (28 : Int32) = I 28 from rfl]
    refine need_T hw (by omega) (fun w2 gw2 => ⟨ku.tr (gw.tr gw2).toH, rfl⟩) (fun e28 h2 => ?_)
    have rh := RP_hdK CLS_bdK rp
    have rw0 := RW_ofK CLS_bdK rp l0
    have g1 : KPG w (wi w 665 ((pp + 1 : Nat) : Int)) := KPG_at
    have o1 : OLDc w (wi w 665 ((pp + 1 : Nat) : Int)) nn 0 := OLDc.row rfl
    generalize wi w 665 ((pp + 1 : Nat) : Int) = w1 at h2 g1 o1
    have pc := h2.2.1.2
    have n8 : nn ≤ 8000 := by have := hw.2.2.1.2; have := hw.2.1.2; omega
    have rw1 := RW_kK (CLS_kK w w1) CLS_bdK rw0 (KN_old g1 o1 (Nat.le_refl _))
    obtain ⟨ka, ma, ca, pha, ea1, ea2, ea3, ea4⟩ : ∃ ka ma ca pha : Nat, ka ≤ 6 ∧ A w1 18 first = ((ma : Nat) : Int) ∧ ca ≤ nn ∧ ORcK w1 1 26 (PwK 0 w1) ka ma (p + 2) pha n ca q q := by
      cases k with
      | zero => exact rw1.elim
      | succ k =>
        obtain ⟨m, cc, ss, e, hh⟩ := rw1
        have hcc : cc ≤ nn := by
          rcases hh with ⟨-, -, -, h, -⟩ | ⟨-, n2, -, h3⟩
          · omega
          · have := (RW_hdK CLS_bdK h3).1.1; omega
        obtain ⟨e1, -, -, -, kk, ph, e2, e3⟩ := e
        obtain ⟨b1, b2, b3, mm, c1, gg, m2, c2, s2, kb, mb, c3, ⟨b4, b5⟩, ⟨b6, b7⟩, ⟨b8, b9⟩, b10⟩ := e3
        have o3 := (RW_hdK (Bw_bdK w1) b9).1.1
        have o2 : c1 ≤ c2 := by
          rcases b7 with b7 | ⟨-, kg, b7⟩
          · omega
          · have := (RW_hdK (Gw_bdK w1) b7).1.1; omega
        exact ⟨kk, mm, c1, ph, e2.1, b4, by omega, b5⟩
    have mb : ma ≤ 8015 := by
      rcases ea4 with ⟨-, h, -⟩ | ⟨-, h⟩
      · omega
      · have := (RW_hdK (Pw_bdK w1) h).1.1; omega
    refine e_in ⟨by omega, by omega⟩ (by decide) (e_in ⟨by omega, by omega⟩ (by decide) ?_)
    rw [tnI (n := p) rfl (by omega), tnI (n := first) rfl (by omega), I_A (k := 18), ea2, len_okK (Pw_bdK w1) hN (by omega) ea4, bnd_so]
    refine e_in ⟨by omega, by omega⟩ (by decide) ?_
    have hk1 : 1 ≤ k := (RW_hdK CLS_bdK rw1).2
    rw [len_okK CLS_bdK hN (by omega) (Or.inr ⟨hk1, rw1⟩), bnd_so]
    have kb : k ≤ 8015 := by have := RW_cntK CLS_bdK rw1; omega
    have e442' : F w1 442 = ((g : Nat) : Int) := by rw [show F w1 442 = F w 442 from congrArg _ (g1.1 442 (by simp)), show F w 442 = F v 442 from congrArg _ (gw.1 442 (by simp))]; exact e442
    unfold hm_Co_addFunction hb_Co_addFunction_0
    have e1 : w1.1 442 = I ((g : Nat) : Int) := by rw [I_F (k := 442), e442']
    have i1 : inb (I ((g : Nat) : Int)) 666 = true := (I_inb (by omega) (by omega)).mpr ⟨by omega, by omega⟩
    have st : ∀ (z : MS) (r : Nat) (y : Int) (f : MS → Option (MS × Unit)), z.1 442 = I ((g : Nat) : Int) → ck (inb (z.1 442) 666) (lt (upA z r (upd (z.2.2.1 r) (z.1 442).toNatClampNeg (I y))) f) = f (wa z r g y) := fun z r y f e => by
      rw [e, i1, ck_t, lt_e, tnI (n := g) rfl (by omega), wa_e]
    rw [show decide (w1.1 442 < 666) = true from by rw [e1, show (666 : Int32) = I 666 from rfl, decL (by omega) (by omega) (by decide) (by decide)]; exact decide_eq_true (by omega), br_tq, I_A (k := 7), I_A (k := 8)]
    have e2 : (wa w1 24 g (A w1 7 p)).1 442 = I ((g : Nat) : Int) := e1
    have e3 : (wa (wa w1 24 g (A w1 7 p)) 25 g ((ka : Nat) : Int)).1 442 = I ((g : Nat) : Int) := e1
    have e4 : (wa (wa (wa w1 24 g (A w1 7 p)) 25 g ((ka : Nat) : Int)) 26 g (A w1 8 p)).1 442 = I ((g : Nat) : Int) := e1
    have e5 : (wa (wa (wa (wa w1 24 g (A w1 7 p)) 25 g ((ka : Nat) : Int)) 26 g (A w1 8 p)) 27 g ((first : Nat) : Int)).1 442 = I ((g : Nat) : Int) := e1
    have e6 : (wa (wa (wa (wa (wa w1 24 g (A w1 7 p)) 25 g ((ka : Nat) : Int)) 26 g (A w1 8 p)) 27 g ((first : Nat) : Int)) 28 g ((k : Nat) : Int)).1 442 = I ((g : Nat) : Int) := e1
    rw [st _ _ _ _ e1, st _ _ _ _ e2, st _ _ _ _ e3, st _ _ _ _ e4, st _ _ _ _ e5, lt_e, e6, bnd_so, lit1q, I_add, show ((g : Nat) : Int) + 1 = ((g + 1 : Nat) : Int) by omega, wi_e]
    have fR : FR [442] [] [24, 25, 26, 27, 28] [] w1 (wi (wa (wa (wa (wa (wa w1 24 g (A w1 7 p)) 25 g ((ka : Nat) : Int)) 26 g (A w1 8 p)) 27 g ((first : Nat) : Int)) 28 g ((k : Nat) : Int)) 442 ((g + 1 : Nat) : Int)) := FR.wi (FR.wa (FR.wa (FR.wa (FR.wa (FR.wa FR.rf (by simp)) (by simp)) (by simp)) (by simp)) (by simp)) (by simp)
    have fF : F (wi (wa (wa (wa (wa (wa w1 24 g (A w1 7 p)) 25 g ((ka : Nat) : Int)) 26 g (A w1 8 p)) 27 g ((first : Nat) : Int)) 28 g ((k : Nat) : Int)) 442 ((g + 1 : Nat) : Int)) 442 = ((g + 1 : Nat) : Int) := by rw [F_wi (by omega) (by omega), if_pos rfl]
    have fO : ∀ r f, f ≠ g → A (wi (wa (wa (wa (wa (wa w1 24 g (A w1 7 p)) 25 g ((ka : Nat) : Int)) 26 g (A w1 8 p)) 27 g ((first : Nat) : Int)) 28 g ((k : Nat) : Int)) 442 ((g + 1 : Nat) : Int)) r f = A w1 r f := fun r f hf => by
      show A (wa (wa (wa (wa (wa w1 24 g (A w1 7 p)) 25 g ((ka : Nat) : Int)) 26 g (A w1 8 p)) 27 g ((first : Nat) : Int)) 28 g ((k : Nat) : Int)) r f = _
      rw [wa_ne hf, wa_ne hf, wa_ne hf, wa_ne hf, wa_ne hf]
    have f24 : A (wi (wa (wa (wa (wa (wa w1 24 g (A w1 7 p)) 25 g ((ka : Nat) : Int)) 26 g (A w1 8 p)) 27 g ((first : Nat) : Int)) 28 g ((k : Nat) : Int)) 442 ((g + 1 : Nat) : Int)) 24 g = A w1 7 p := by
      show A (wa (wa (wa (wa (wa w1 24 g (A w1 7 p)) 25 g ((ka : Nat) : Int)) 26 g (A w1 8 p)) 27 g ((first : Nat) : Int)) 28 g ((k : Nat) : Int)) 24 g = _
      rw [wa_rne (by decide), wa_rne (by decide), wa_rne (by decide), wa_rne (by decide), wa_eq (A_r w1 7 p)]
    have f25 : A (wi (wa (wa (wa (wa (wa w1 24 g (A w1 7 p)) 25 g ((ka : Nat) : Int)) 26 g (A w1 8 p)) 27 g ((first : Nat) : Int)) 28 g ((k : Nat) : Int)) 442 ((g + 1 : Nat) : Int)) 25 g = ((ka : Nat) : Int) := by
      show A (wa (wa (wa (wa (wa w1 24 g (A w1 7 p)) 25 g ((ka : Nat) : Int)) 26 g (A w1 8 p)) 27 g ((first : Nat) : Int)) 28 g ((k : Nat) : Int)) 25 g = _
      rw [wa_rne (by decide), wa_rne (by decide), wa_rne (by decide), wa_eq ⟨by omega, by omega⟩]
    have f27 : A (wi (wa (wa (wa (wa (wa w1 24 g (A w1 7 p)) 25 g ((ka : Nat) : Int)) 26 g (A w1 8 p)) 27 g ((first : Nat) : Int)) 28 g ((k : Nat) : Int)) 442 ((g + 1 : Nat) : Int)) 27 g = ((first : Nat) : Int) := by
      show A (wa (wa (wa (wa (wa w1 24 g (A w1 7 p)) 25 g ((ka : Nat) : Int)) 26 g (A w1 8 p)) 27 g ((first : Nat) : Int)) 28 g ((k : Nat) : Int)) 27 g = _
      rw [wa_rne (by decide), wa_eq ⟨by omega, by omega⟩]
    generalize wi (wa (wa (wa (wa (wa w1 24 g (A w1 7 p)) 25 g ((ka : Nat) : Int)) 26 g (A w1 8 p)) 27 g ((first : Nat) : Int)) 28 g ((k : Nat) : Int)) 442 ((g + 1 : Nat) : Int) = z at fR fF fO f24 f25 f27
    have rA : ∀ r, r ∉ [24, 25, 26, 27, 28] → z.2.2.1 r = w1.2.2.1 r := fun r hr => fR.2.2.1 r hr
    have aA : ∀ r k, r ∉ [24, 25, 26, 27, 28] → A z r k = A w1 r k := fun r k hr => by show (z.2.2.1 r k).toInt = _; rw [rA r hr]; rfl
    have kz : ∀ {a b l}, KNc w1 z a b l := fun {a b l} => ⟨⟨rA 6 (by simp), rA 7 (by simp)⟩, fun k _ _ => ⟨⟨aA _ _ (by simp), aA _ _ (by simp), aA _ _ (by simp), aA _ _ (by simp), aA _ _ (by simp)⟩, fun _ => aA _ _ (by simp)⟩⟩
    have gvz : KPH v z := (gw.tr g1).toH.tr (FR.mo fR (by simp) (by simp) (by simp) (by simp))
    have oz : OLDc v w1 n 0 := OLDc.tr ow o1 (by omega)
    have fz : ∀ f, f < g → A z 24 f = A v 24 f ∧ A z 25 f = A v 25 f ∧ A z 27 f = A v 27 f := fun f hf => by
      have gv1 : KPG v w1 := gw.tr g1
      have e : ∀ r, r ∉ [16, 17, 18, 19, 20, 21, 34] → A w1 r f = A v r f := fun r hr => by show (w1.2.2.1 r f).toInt = _; rw [gv1.2.2.1 r hr]; rfl
      exact ⟨by rw [fO _ _ (by omega), e 24 (by simp)], by rw [fO _ _ (by omega), e 25 (by simp)], by rw [fO _ _ (by omega), e 27 (by simp)]⟩
    have fns2 : FNScK z g p n q := FNS_kK ((rA 6 (by simp)).trans ((gw.tr g1).2.2.1 6 (by simp))) ((rA 7 (by simp)).trans ((gw.tr g1).2.2.1 7 (by simp))) (fun k hk => by
      obtain ⟨b1, b2, b3, b4, b5, b6⟩ := oz.1 k hk
      exact ⟨by rw [aA _ _ (by simp)]; exact b1, by rw [aA _ _ (by simp)]; exact b2, by rw [aA _ _ (by simp)]; exact b3, by rw [aA _ _ (by simp)]; exact b4, by rw [aA _ _ (by simp)]; exact b5, by rw [aA _ _ (by simp)]; exact b6⟩) fz fns
    refine ok_some.mpr ⟨ku.tr gvz, pp + 1, nn, qq, ⟨ku.tr gvz, ?_, fF, by omega, p, n, q, k, ka, first, fns2, ⟨by omega, by rw [show pp + 1 - 1 = pp by omega, aA 6 _ (by simp), g1.a6]; exact e28⟩, ?_, f27, f25, ea1, ?_⟩, by omega⟩
    · obtain ⟨b1, b2, b3, b4, b5, b6⟩ := h2
      have e : ∀ k, k ≠ 442 → F z k = F w1 k := fun k hk => congrArg _ (fR.1 k (by simp; exact hk))
      refine ⟨?_, ⟨by rw [e 665 (by decide)]; exact b2.1, b2.2⟩, ⟨by rw [e 306 (by decide)]; exact b3.1, b3.2⟩, by rw [e 449 (by decide)]; exact b4, ⟨by rw [e 666 (by decide)]; exact b5.1, b5.2⟩, by rw [e 664 (by decide)]; exact b6.1, b6.2⟩
      unfold TKKc
      simp only [aA 6 _ (by simp)]; exact b1
    · rw [show pp + 1 - 1 = pp by omega]
      exact RW_kK (CLS_kK w1 z) CLS_bdK rw1 kz
    · rw [f24, aA 7 _ (by simp)]
  have gen : ∀ (M k j first l pp nn qq : Nat) (w : MS), KPG v w → OLDc v w n 0 → PSI w c pp nn qq 0 0 → p + 5 ≤ pp → RPcK w 1 27 (CLScK w) k first l p pp n nn q qq → A w 21 l = 0 → j + p ≤ pp → 4001 < M + pp → OK (fun w r => KPH u w ∧ match r with
    | .inr k => k = 3
    | .inl _ => ∃ p2 n2 q2, PFIK u w c (g + 1) p2 n2 q2 ∧ p < p2) (hg_Pa_oneFunction N M w (I ((p : Nat) : Int)) (I ((first : Nat) : Int)) (I ((l : Nat) : Int)) (I ((j : Nat) : Int))) := by
    intro M
    induction M with
    | zero =>
      intro k j first l pp nn qq w _ _ hw
      have := hw.2.1.2
      omega
    | succ M ih =>
      intro k j first l pp nn qq w gv ol hw hpp rp l0 hj hM
      show OK _ (hb_Pa_oneFunction_15 N (hg_Pa_oneFunction N M) w (I ((p : Nat) : Int)) (I ((first : Nat) : Int)) (I ((l : Nat) : Int)) (I ((j : Nat) : Int)))
      unfold hb_Pa_oneFunction_15
      have ppc := hw.2.1.2
      have rh := RP_hdK CLS_bdK rp
      have hk1 : 1 ≤ k := by
        cases k with
        | zero => exact rp.elim
        | succ k => omega
      have done := e58 M k first l pp nn qq w gv ol hw hpp rp l0
      rw [show (4000 : Int32) = I 4000 from rfl]
      refine k_le ⟨by decide, by decide⟩ ⟨by omega, by omega⟩ (fun _ => done) (fun hlt => look_T hw (fun w2 gw => ⟨ku.tr (gv.tr gw).toH, rfl⟩) (fun h45 => ?_))
      rw [show (27 : Int32) = I 27 from rfl]
      refine k_eq (A_r w 6 pp) ⟨by decide, by decide⟩ (fun e26 => ok_lt.mpr ?_) (fun _ => done)
      obtain ⟨hlt2, hv2⟩ := PSI_at hw ⟨by omega, by omega⟩
      rw [inc_e hw]
      have g2 : KPG w (wi w 665 ((pp + 1 : Nat) : Int)) := KPG_at
      have o2 : OLDc w (wi w 665 ((pp + 1 : Nat) : Int)) nn 0 := OLDc.row rfl
      generalize wi w 665 ((pp + 1 : Nat) : Int) = v2 at hv2 g2 o2
      refine ok_T (ok_mono (clause_okcK (N := N) hv2 hN) (fun w3 r hw3 => ?_))
      obtain ⟨gw, hw3⟩ := hw3
      cases r with
      | inr k => exact ⟨ku.tr (gv.tr (g2.tr gw)).toH, hw3⟩
      | inl x =>
        obtain ⟨m, p3, n3, q3, rfl, ol3, hv3, hp3, em, m0⟩ := hw3
        have hm := em.1
        have hm1 := hm.1
        have n3b : n3 ≤ 8000 := by have := hv3.2.2.1.2; have := hv3.2.1.2; omega
        show OK _ (bnd (hm_Pa_chain N w3 (I ((l : Nat) : Int)) (I ((m : Nat) : Int))) _)
        rw [chain_e (by omega), bnd_so, lit1q, I_add, show ((j : Nat) : Int) + 1 = ((j + 1 : Nat) : Int) by omega]
        have ov : OLDc w w3 nn 0 := OLDc.tr o2 ol3 (Nat.le_refl _)
        have gw3 : KPG w w3 := g2.tr gw
        have gw2 : KPG w3 (wa w3 21 l ((m : Nat) : Int)) := FR.wa FR.rf (by simp)
        have a21 : ∀ k, k ≠ l → A (wa w3 21 l ((m : Nat) : Int)) 21 k = A w3 21 k := fun k hk => wa_ne hk
        have aO : ∀ r k, r ≠ 21 → A (wa w3 21 l ((m : Nat) : Int)) r k = A w3 r k := fun r k hr => wa_rne hr
        have a21l : A (wa w3 21 l ((m : Nat) : Int)) 21 l = ((m : Nat) : Int) := wa_eq ⟨by omega, by omega⟩
        have hv4 : PSI (wa w3 21 l ((m : Nat) : Int)) c p3 n3 q3 0 0 := ⟨TKK_g gw2 hv3.1, hv3.2⟩
        have e6 : (wa w3 21 l ((m : Nat) : Int)).2.2.1 6 = w3.2.2.1 6 := gw2.2.2.1 6 (by simp)
        have e7 : (wa w3 21 l ((m : Nat) : Int)).2.2.1 7 = w3.2.2.1 7 := gw2.2.2.1 7 (by simp)
        generalize wa w3 21 l ((m : Nat) : Int) = w5 at gw2 a21 aO a21l hv4 e6 e7
        have kv : KNc w w5 n nn l := ⟨⟨e6.trans (gw3.2.2.1 6 (by simp)), e7.trans (gw3.2.2.1 7 (by simp))⟩, fun k k1 k2 => by
          obtain ⟨b1, b2, b3, b4, b5, b6⟩ := ov.1 k k2
          exact ⟨⟨by rw [aO _ _ (by decide)]; exact b1, by rw [aO _ _ (by decide)]; exact b2, by rw [aO _ _ (by decide)]; exact b3, by rw [aO _ _ (by decide)]; exact b4, by rw [aO _ _ (by decide)]; exact b5⟩, fun k3 => by rw [a21 k k3]; exact b6⟩⟩
        have kw : KNc w3 w5 nn n3 m := ⟨⟨e6, e7⟩, fun k k1 k2 => ⟨⟨aO _ _ (by decide), aO _ _ (by decide), aO _ _ (by decide), aO _ _ (by decide), aO _ _ (by decide)⟩, fun k3 => a21 k (by omega)⟩⟩
        have rp5 := RP_kK (CLS_kK w w5) CLS_bdK rp kv
        have em5 := CLS_kK w3 w5 _ _ _ _ _ _ _ em kw
        refine ih (k + 1) (j + 1) first m p3 n3 q3 w5 (gv.tr (gw3.tr gw2)) ?_ hv4 (by omega) (Or.inr ⟨hk1, l, pp, nn, qq, rp5, ⟨a21l, fun _ => (gw3.tr gw2).a6.trans e26⟩, em5⟩) ?_ (by omega) (by omega)
        · have o6 := OLDc.tr ol ov (by omega)
          refine ⟨fun k hk => ?_, fun i hi => absurd hi (by omega)⟩
          obtain ⟨b1, b2, b3, b4, b5, b6⟩ := o6.1 k hk
          exact ⟨by rw [aO _ _ (by decide)]; exact b1, by rw [aO _ _ (by decide)]; exact b2, by rw [aO _ _ (by decide)]; exact b3, by rw [aO _ _ (by decide)]; exact b4, by rw [aO _ _ (by decide)]; exact b5, by rw [a21 k (by omega)]; exact b6⟩
        · rw [a21 m (by omega)]; exact m0
  unfold hm_Pa_oneFunction hb_Pa_oneFunction_0
  rw [show v.1 665 = I ((p : Nat) : Int) by rw [I_F (k := 665), hv.2.1.1]]
  refine ok_T (ok_mono (clause_okcK (N := N) hv hN) (fun w3 r hw3 => ?_))
  obtain ⟨gw, hw3⟩ := hw3
  cases r with
  | inr k => exact ⟨ku.tr gw.toH, hw3⟩
  | inl x =>
    obtain ⟨m, p3, n3, q3, rfl, ol3, hv3, hp3, em, m0⟩ := hw3
    have h5 := em.2.1
    exact gen N 1 0 m m p3 n3 q3 w3 gw ol3 hv3 (by omega) (Or.inl ⟨rfl, rfl, em⟩) m0 (by omega) (by omega)
end
end
section
set_option maxRecDepth 100000
section
variable {u v w : MS} {N c p n q g : Nat}
def PRQcK (u : MS) (c : Nat) (w : MS) (r : Int32) : Prop := KPH (wi u 441 1) w ∧ (r = 0 → A w 6 c = 0 ∧ ∃ g n q, 1 ≤ g ∧ PFIK (wi u 441 1) w c g c n q)
theorem parse_okcK (h : TKKc u c) (hN : 10000 ≤ N) : OK (PRQcK u c) (hm_Pa_parse N u) := by
  have hc := h.1
  have flt : ∀ (w : MS) (G : (MS → Int32 → Option (MS × Int32))), KPH (wi u 441 1) w → F w 667 ≠ 0 → OK (PRQcK u c) (hb_Pa_parse_68 N G w) := fun w G gw hf => by
    unfold hb_Pa_parse_68
    refine ok_some.mpr ⟨gw, fun e => absurd ?_ hf⟩
    show (w.1 667).toInt = 0
    rw [e]; rfl
  have e54 : ∀ (M g p n q : Nat) (w : MS), PFIK (wi u 441 1) w c g p n q → (∀ (g p n q : Nat) (w : MS), PFIK (wi u 441 1) w c g p n q → 1 ≤ g → 4001 < M + g → OK (PRQcK u c) (hg_Pa_parse N M w (I ((g : Nat) : Int)))) → 4001 < M + 1 + g → OK (PRQcK u c) (hb_Pa_parse_54 N (hg_Pa_parse N M) w (I ((g : Nat) : Int))) := fun M g p n q w hw ih hM => by
    unfold hb_Pa_parse_54
    obtain ⟨w2, r, e, h2, h3⟩ := oneFunction_okcK (N := N) hw hN
    refine ok_H ⟨w2, r, e, ?_⟩
    cases r with
    | inr k => exact ⟨h3, flt w2 _ h2 (zr_Pa_oneFunction _ _ e)⟩
    | inl x =>
      obtain ⟨p2, n2, q2, h4, h5⟩ := h3
      show OK _ (hg_Pa_parse N M w2 (I ((g : Nat) : Int) + 1))
      rw [lit1q, I_add, show ((g : Nat) : Int) + 1 = ((g + 1 : Nat) : Int) by omega]
      exact ih (g + 1) p2 n2 q2 w2 h4 (by omega) (by omega)
  have gen : ∀ (M g p n q : Nat) (w : MS), PFIK (wi u 441 1) w c g p n q → 1 ≤ g → 4001 < M + g → OK (PRQcK u c) (hg_Pa_parse N M w (I ((g : Nat) : Int))) := by
    intro M
    induction M with
    | zero =>
      intro g p n q w hw _ hM
      have := hw.2.2.2.1
      have := hw.2.1.2.1.2
      omega
    | succ M ih =>
      intro g p n q w hw hg hM
      have h6 := hw.2.2.2.1
      have hp := hw.2.1.2.1.2
      show OK _ (hb_Pa_parse_36 N (hg_Pa_parse N M) w (I ((g : Nat) : Int)))
      unfold hb_Pa_parse_36
      refine k_lt (x := 4000) ⟨by decide, by decide⟩ ⟨by omega, by omega⟩ (fun z => absurd z (by omega)) (fun _ => ?_)
      refine k_c (y := 0) rfl ⟨by omega, by omega⟩ ⟨by decide, by decide⟩ (fun z => absurd z (by omega)) (fun _ => ?_)
      have lk := look_T (N := N) (α := Int32) (f := fun w r => some (w, .inl r)) (Q := fun w2 r => KPG w w2 ∧ match r with
        | .inl r => w2 = w ∧ r = I (A w 6 p)
        | .inr k => k = 3) hw.2.1 (fun w gw => ⟨gw, rfl⟩) (fun _ => ok_some.mpr ⟨KPG.rf, rfl, rfl⟩)
      obtain ⟨w2, r, e, h2, h3⟩ := lk
      obtain ⟨w4, r4, e4⟩ : ∃ w4 r4, hm_Pa_look N w = some (w4, r4) := by
        cases hl : hm_Pa_look N w with
        | none => rw [hl] at e; cases e
        | some y => exact ⟨y.1, y.2, rfl⟩
      rw [e4] at e
      refine ok_H ⟨w4, r4, e4, ?_⟩
      cases r4 with
      | inr k =>
        injection e with e
        injection e with ea eb
        subst ea
        subst eb
        exact ⟨h3, flt w4 _ (hw.1.tr h2.toH) (zr_Pa_look _ _ e4)⟩
      | inl x =>
        injection e with e
        injection e with ea eb
        subst ea
        subst eb
        obtain ⟨rfl, rfl⟩ := h3
        refine k_c (y := 0) rfl (A_r _ 6 p) ⟨by decide, by decide⟩ (fun z => ?_) (fun _ => e54 M g p n q _ hw ih (by omega))
        unfold hb_Pa_parse_64
        have : p = c := by
          rcases Nat.lt_or_ge p c with y | y
          · have := (hw.2.1.1.2.2 p y).1; omega
          · omega
        refine ok_some.mpr ⟨hw.1, fun _ => ⟨by rw [← this]; exact z, g, n, q, hg, ?_⟩⟩
        rw [← this]; rw [← this] at hw; exact hw
  unfold hm_Pa_parse hb_Pa_parse_0 hm_Tr_clear hb_Tr_clear_0 hm_Co_clear hb_Co_clear_0
  simp only [lt_e, bnd_so]
  have ei : ∀ (z : MS) k, upI z k 0 = wi z k 0 := fun _ _ => rfl
  have ei1 : ∀ (z : MS) k, upI z k 1 = wi z k 1 := fun _ _ => rfl
  rw [ei, ei, ei, ei, ei, ei, ei, ei1]
  have cm : wi (wi u 306 0) 441 1 = wi (wi u 441 1) 306 0 := by
    show ((fun j => if j = 441 then I 1 else if j = 306 then I 0 else u.1 j), u.2.1, u.2.2.1, u.2.2.2) = ((fun j => if j = 306 then I 0 else if j = 441 then I 1 else u.1 j), u.2.1, u.2.2.1, u.2.2.2)
    congr 1
    funext j
    by_cases z : j = 441
    · rw [if_pos z, if_neg (by omega), if_pos z]
    · rw [if_neg z, if_neg z]
  rw [cm]
  have kh : KPH (wi u 441 1) (wi (wi (wi (wi (wi (wi (wi (wi u 441 1) 306 0) 442 0) 449 0) 664 0) 665 0) 666 0) 667 0) := FR.wi (FR.wi (FR.wi (FR.wi (FR.wi (FR.wi (FR.wi FR.rf (by simp)) (by simp)) (by simp)) (by simp)) (by simp)) (by simp)) (by simp)
  have tk : TKKc (wi (wi (wi (wi (wi (wi (wi (wi u 441 1) 306 0) 442 0) 449 0) 664 0) 665 0) 666 0) 667 0) c := h
  have f0 : ∀ (z : MS) (a b : Nat), F (wi z a 0) b = if b = a then 0 else F z b := fun z a b => F_wi (by decide) (by decide)
  have f6 : ∀ k, k ∈ [306, 442, 449, 664, 665, 666] → F (wi (wi (wi (wi (wi (wi (wi (wi u 441 1) 306 0) 442 0) 449 0) 664 0) 665 0) 666 0) 667 0) k = 0 := fun k hk => by
    simp only [List.mem_cons, List.not_mem_nil, or_false] at hk
    rw [f0, f0, f0, f0, f0, f0, f0]
    rcases hk with rfl | rfl | rfl | rfl | rfl | rfl <;> rfl
  generalize wi (wi (wi (wi (wi (wi (wi (wi u 441 1) 306 0) 442 0) 449 0) 664 0) 665 0) 666 0) 667 0 = z at kh tk f6
  obtain ⟨M, rfl⟩ : ∃ M, N = M + 1 := ⟨N - 1, by omega⟩
  have nx := e54 M 0 0 0 0 z ⟨kh, ⟨tk, ⟨f6 _ (by simp), by omega⟩, ⟨f6 _ (by simp), by omega⟩, f6 _ (by simp), ⟨f6 _ (by simp), by omega⟩, f6 _ (by simp), by omega⟩, f6 _ (by simp), by omega, rfl, rfl, rfl⟩ (gen M) (by omega)
  show OK _ (hb_Pa_parse_36 (M + 1) (hg_Pa_parse (M + 1) M) z 0)
  unfold hb_Pa_parse_36
  rw [show decide ((4000 : Int32) < 0) = false from rfl, br_fq, show decide ((0 : Int32) = 0) = true from rfl, br_tq]
  exact nx
end
end
