set_option maxRecDepth 100000
def KNc (u w : MS) (a b n : Nat) : Prop := (w.2.2.1 6 = u.2.2.1 6 ∧ w.2.2.1 7 = u.2.2.1 7) ∧ ∀ k, a < k → k ≤ b → (A w 16 k = A u 16 k ∧ A w 17 k = A u 17 k ∧ A w 18 k = A u 18 k ∧ A w 19 k = A u 19 k ∧ A w 20 k = A u 20 k) ∧ (k ≠ n → A w 21 k = A u 21 k)
def HDc (n lo hi a b q r : Nat) : Prop := (a < n ∧ n ≤ b) ∧ lo < hi ∧ b + 1 + 2 * lo ≤ a + 2 * hi ∧ q ≤ r ∧ 5 * r + lo + 1 ≤ 5 * q + hi
def RWc (u : MS) (d : Nat) (E : Nat → Nat → Nat → Nat → Nat → Nat → Nat → Prop) : Nat → Nat → Nat → Nat → Nat → Nat → Nat → Nat → Prop
  | 0 => fun _ _ _ _ _ _ _ => False
  | k + 1 => fun n lo hi a b q r => ∃ m c s, E n lo m a c q s ∧ ((k = 0 ∧ A u 21 n = 0 ∧ m = hi ∧ c = b ∧ s = r) ∨ (1 ≤ k ∧ ∃ n2 : Nat, A u 21 n = ((n2 : Nat) : Int) ∧ RWc u d E k n2 (m + d) hi c b s r))
def ORc (u : MS) (d : Nat) (E : Nat → Nat → Nat → Nat → Nat → Nat → Nat → Prop) (k n lo hi a b q r : Nat) : Prop := (k = 0 ∧ n = 0 ∧ lo = hi ∧ a = b ∧ q = r) ∨ (1 ≤ k ∧ RWc u d E k n lo hi a b q r)
def RPc (u : MS) (d : Nat) (E : Nat → Nat → Nat → Nat → Nat → Nat → Nat → Prop) : Nat → Nat → Nat → Nat → Nat → Nat → Nat → Nat → Nat → Prop
  | 0 => fun _ _ _ _ _ _ _ _ => False
  | k + 1 => fun n l lo hi a b q r => (k = 0 ∧ n = l ∧ E l lo hi a b q r) ∨ (1 ≤ k ∧ ∃ l2 m c s : Nat, RPc u d E k n l2 lo m a c q s ∧ A u 21 l2 = ((l : Nat) : Int) ∧ E l (m + d) hi c b s r)
def LFc (u : MS) (n lo : Nat) : Prop := A u 16 n = A u 6 lo ∧ (1 ≤ A u 6 lo ∧ A u 6 lo ≤ 4) ∧ A u 17 n = ((lo : Nat) : Int) ∧ A u 18 n = A u 7 lo
def TKc (u : MS) (n lo hi : Nat) : Prop := ∃ t : Nat, A u 17 n = ((t : Nat) : Int) ∧ lo ≤ t ∧ t < hi
def TLc (u : MS) (E : Nat → Nat → Nat → Nat → Nat → Nat → Nat → Prop) (n lo hi a q r : Nat) : Prop := ∃ k m mid c s : Nat, A u 18 n = ((m : Nat) : Int) ∧ A u 19 n = ((k : Nat) : Int) ∧ k ≤ 8 ∧ ORc u 1 E k m (lo + 1) mid a c q s ∧ ((A u 20 n = 0 ∧ hi = mid + 1 ∧ s = r ∧ c < n) ∨ (1 ≤ k ∧ ∃ x c2 : Nat, A u 20 n = ((x : Nat) : Int) ∧ E x (mid + 1) (hi - 1) c c2 s r ∧ c2 < n))
def TUc (u : MS) (E : Nat → Nat → Nat → Nat → Nat → Nat → Nat → Prop) (n lo hi a q r : Nat) : Prop := ∃ k m c : Nat, A u 18 n = ((m : Nat) : Int) ∧ A u 19 n = ((k : Nat) : Int) ∧ k ≤ 8 ∧ ORc u 1 E k m (lo + 1) (hi - 1) a c q r ∧ c < n
def PAc (u : MS) : Nat → Nat → Nat → Nat → Nat → Nat → Nat → Nat → Prop
  | 0 => fun _ _ _ _ _ _ _ => False
  | f + 1 => fun n lo hi a b q r => HDc n lo hi a b q r ∧ TKc u n lo hi ∧ q = r ∧ ((LFc u n lo ∧ hi = lo + 1) ∨ (A u 16 n = 17 ∧ ∃ m : Nat, A u 18 n = ((m : Nat) : Int) ∧ (a < m ∧ m ≤ b ∧ m ≠ n) ∧ LFc u m (lo + 1) ∧ A u 6 (lo + 1) = 1 ∧ hi = lo + 2) ∨ (A u 16 n = 5 ∧ ∃ m c : Nat, A u 18 n = ((m : Nat) : Int) ∧ PAc u f m (lo + 1) (hi - 1) a c q r ∧ c < n) ∨ (A u 16 n = 6 ∧ TUc u (PAc u f) n lo hi a q r) ∨ (A u 16 n = 7 ∧ TLc u (PAc u f) n lo hi a q r))
def PRTc (u : MS) (Pa E G : Nat → Nat → Nat → Nat → Nat → Nat → Nat → Prop) (k n pl ph r0 hi a b q r : Nat) : Prop := (a < n ∧ n ≤ b) ∧ A u 16 n = 25 ∧ TKc u n 0 hi ∧ ∃ m c g m2 c1 s kb mb c2 : Nat, (A u 18 n = ((m : Nat) : Int) ∧ ORc u 1 Pa k m pl ph a c q q) ∧ (A u 19 n = ((g : Nat) : Int) ∧ ((g = 0 ∧ m2 = r0 ∧ c1 = c ∧ s = q) ∨ (1 ≤ g ∧ ∃ kg, RWc u 1 G kg g (r0 + 1) m2 c c1 q s))) ∧ (A u 20 n = ((mb : Nat) : Int) ∧ RWc u 1 E kb mb (m2 + 1) hi c1 c2 s r) ∧ c2 < n
def CSPc (u : MS) (Pa E G : Nat → Nat → Nat → Nat → Nat → Nat → Nat → Prop) (n lo hi a b q r : Nat) : Prop := HDc n lo hi a b q r ∧ ∃ m1, PRTc u Pa E G 1 n lo m1 m1 hi a b q r
def CHPc (u : MS) (E G : Nat → Nat → Nat → Nat → Nat → Nat → Nat → Prop) (n lo hi a b q r : Nat) : Prop := HDc n lo hi a b q r ∧ A u 16 n = 25 ∧ TKc u n 0 hi ∧ A u 18 n = 0 ∧ ∃ g kg m2 c1 s kb mb c2 : Nat, (A u 19 n = ((g : Nat) : Int) ∧ 1 ≤ g ∧ RWc u 1 G kg g lo m2 a c1 q s) ∧ (A u 20 n = ((mb : Nat) : Int) ∧ RWc u 1 E kb mb (m2 + 1) hi c1 c2 s r) ∧ c2 < n
def AGc (u : MS) (E : Nat → Nat → Nat → Nat → Nat → Nat → Nat → Prop) (n lo hi a b q r : Nat) : Prop := HDc n lo hi a b q r ∧ A u 16 n = 16 ∧ ∃ k m c : Nat, A u 18 n = ((m : Nat) : Int) ∧ A u 19 n = ((k : Nat) : Int) ∧ k ≤ 6 ∧ ORc u 1 E k m (lo + 1) (hi - 1) a c q r ∧ c < n
def STPc (u : MS) (E : Nat → Nat → Nat → Nat → Nat → Nat → Nat → Prop) (l x x2 c c2 q r s : Nat) (aa oo : Option Nat) (s2 : Nat) (aa2 oo2 : Option Nat) : Prop :=
  ((∃ m, E l x m c c2 q r ∧ x2 = m + 1) ∧ s2 = s + 1 ∧ aa2 = aa ∧ oo2 = oo) ∨
  ((x2 = x ∧ c < l ∧ c2 = l ∧ r = q) ∧ TKc u l 0 x ∧
    ((A u 16 l = 24 ∧ A u 18 l = 6 ∧ 1 ≤ s ∧ aa = none ∧ s2 = s - 1 ∧ aa2 = some (s - 1) ∧ oo2 = oo) ∨
    (A u 16 l = 24 ∧ A u 18 l = 16 ∧ 1 ≤ s ∧ aa = none ∧ oo = none ∧ s2 = s - 1 ∧ aa2 = none ∧ oo2 = some (s - 1)) ∨
    (A u 16 l = 23 ∧ A u 18 l = 6 ∧ 1 ≤ s ∧ aa = some (s - 1) ∧ s2 = s ∧ aa2 = none ∧ oo2 = oo) ∨
    (A u 16 l = 23 ∧ A u 18 l = 16 ∧ 1 ≤ s ∧ aa = none ∧ oo = some (s - 1) ∧ s2 = s ∧ aa2 = none ∧ oo2 = none) ∨
    (A u 16 l = 23 ∧ A u 18 l ≠ 6 ∧ A u 18 l ≠ 16 ∧ 2 ≤ s ∧ s2 = s - 1 ∧ aa2 = aa ∧ oo2 = oo)))
def SFc (u : MS) (E : Nat → Nat → Nat → Nat → Nat → Nat → Nat → Prop) (hi b r : Nat) : Nat → Nat → Nat → Nat → Nat → Nat → Option Nat → Option Nat → Prop
  | 0 => fun n x c q s aa oo => n = 0 ∧ x = hi + 1 ∧ c = b ∧ q = r ∧ s = 1 ∧ aa = none ∧ oo = none
  | j + 1 => fun n x c q s aa oo => 1 ≤ n ∧ ∃ n2 x2 c2 q2 s2 aa2 oo2, STPc u E n x x2 c c2 q q2 s aa oo s2 aa2 oo2 ∧ A u 21 n = ((n2 : Nat) : Int) ∧ SFc u E hi b r j n2 x2 c2 q2 s2 aa2 oo2
def SPc (u : MS) (E : Nat → Nat → Nat → Nat → Nat → Nat → Nat → Prop) (n lo a q : Nat) : Nat → Nat → Nat → Nat → Nat → Nat → Option Nat → Option Nat → Prop
  | 0 => fun _ _ _ _ _ _ _ => False
  | j + 1 => fun l x c r s aa oo => (j = 0 ∧ n = l ∧ 1 ≤ l ∧ STPc u E l lo x a c q r 0 none none s aa oo) ∨ (1 ≤ j ∧ 1 ≤ l ∧ ∃ l2 x2 c2 r2 s2 aa2 oo2, SPc u E n lo a q j l2 x2 c2 r2 s2 aa2 oo2 ∧ A u 21 l2 = ((l : Nat) : Int) ∧ STPc u E l x2 x c2 c r2 r s2 aa2 oo2 s aa oo)
def XPc (u : MS) : Nat → Nat → Nat → Nat → Nat → Nat → Nat → Nat → Nat → Nat → Prop
  | 0 => fun _ _ _ _ _ _ _ _ _ => False
  | f + 1 => fun o cl n lo hi a b q r => HDc n lo hi a b q r ∧ TKc u n lo hi ∧ o ≤ 25 ∧ (
    (LFc u n lo ∧ hi = lo + 1 ∧ q = r) ∨
    (A u 16 n = 5 ∧ ∃ m c : Nat, A u 18 n = ((m : Nat) : Int) ∧ XPc u f (o + 1) 3 m (lo + 1) (hi - 1) a c q r ∧ c < n) ∨
    (A u 16 n = 6 ∧ TUc u (XPc u f (o + 1) 3) n lo hi a q r) ∨
    (A u 16 n = 7 ∧ TLc u (XPc u f (o + 1) 3) n lo hi a q r) ∨
    (A u 16 n = 8 ∧ ∃ k m c : Nat, A u 18 n = ((m : Nat) : Int) ∧ RWc u 1 (XPc u f (o + 2) 3) k m (lo + 1) (hi - 1) a c q r ∧ c < n) ∨
    (A u 16 n = 9 ∧ ∃ x mid c s k m c2 : Nat, A u 18 n = ((x : Nat) : Int) ∧ XPc u f (o + 1) 3 x (lo + 1) mid a c q s ∧ A u 19 n = ((m : Nat) : Int) ∧ RWc u 1 (CSPc u (PAc u f) (XPc u f (o + 2) 3) (XPc u f (o + 1) 3)) k m (mid + 1) (hi - 1) c c2 s r ∧ c2 < n) ∨
    (A u 16 n = 10 ∧ ∃ k m c : Nat, A u 19 n = ((m : Nat) : Int) ∧ RWc u 1 (CHPc u (XPc u f (o + 2) 3) (XPc u f (o + 1) 3)) k m (lo + 1) (hi - 1) a c q r ∧ c < n) ∨
    (A u 16 n = 11 ∧ ∃ k m m1 c1 s1 : Nat, A u 19 n = ((m : Nat) : Int) ∧ ORc u 1 (CSPc u (PAc u f) (XPc u f (o + 2) 3) (XPc u f (o + 1) 3)) k m (lo + 1) m1 a c1 q s1 ∧ ((A u 18 n = 0 ∧ A u 20 n = 0 ∧ 1 ≤ k ∧ hi = m1 + 1 ∧ s1 = r ∧ c1 < n) ∨ ∃ x m2 c2 s2 kb mb c3 : Nat, 1 ≤ x ∧ A u 18 n = ((x : Nat) : Int) ∧ XPc u f (o + 1) 3 x (m1 + 1) m2 c1 c2 s1 s2 ∧ A u 20 n = ((mb : Nat) : Int) ∧ RWc u 1 (XPc u f (o + 2) 3) kb mb (m2 + 1) (hi - 1) c2 c3 s2 r ∧ c3 < n)) ∨
    (A u 16 n = 12 ∧ ∃ k m ph c : Nat, A u 17 n = ((lo : Nat) : Int) ∧ A u 18 n = (if q < 400 then ((q : Nat) : Int) else 0) ∧ A u 19 n = ((m : Nat) : Int) ∧ A u 20 n = ((hi - 1 : Nat) : Int) ∧ k ≤ 6 ∧ q + 1 ≤ r ∧ PRTc u (PAc u f) (XPc u f (o + 2) 3) (XPc u f (o + 1) 3) k m (lo + 2) ph (ph + 1) (hi - 1) a c (q + 1) r ∧ c < n) ∨
    (A u 16 n = 13 ∧ hi = lo + 4 ∧ q = r) ∨
    (A u 16 n = 14 ∧ A u 17 n = ((lo : Nat) : Int) ∧ ∃ k m a2 c : Nat, A u 19 n = ((m : Nat) : Int) ∧ A u 20 n = ((k : Nat) : Int) ∧ k ≤ 6 ∧ a ≤ a2 ∧ ORc u 1 (XPc u f (o + 1) 3) k m (lo + 2) (hi - 1) a2 c q r ∧ c < n) ∨
    (A u 16 n = 15 ∧ 1 ≤ cl ∧ ∃ x mid c s k m : Nat, A u 18 n = ((x : Nat) : Int) ∧ XPc u f o 0 x lo mid a c q s ∧ c < n ∧ A u 19 n = ((m : Nat) : Int) ∧ RWc u 0 (AGc u (XPc u f (o + 1) 3)) k m mid hi n b s r) ∨
    ((A u 16 n = 17 ∨ A u 16 n = 18) ∧ 1 ≤ cl ∧ ∃ m c : Nat, A u 18 n = ((m : Nat) : Int) ∧ XPc u f (o + 1) 1 m (lo + 1) hi a c q r ∧ c < n) ∨
    (A u 16 n = 19 ∧ 3 ≤ cl ∧ ∃ m c : Nat, A u 18 n = ((m : Nat) : Int) ∧ XPc u f (o + 1) 3 m (lo + 1) hi a c q r ∧ c < n) ∨
    (A u 16 n = 20 ∧ 3 ≤ cl ∧ ∃ x y mid c c2 : Nat, A u 18 n = ((x : Nat) : Int) ∧ PAc u f x lo mid a c q q ∧ A u 19 n = ((y : Nat) : Int) ∧ XPc u f (o + 1) 3 y (mid + 1) hi c c2 q r ∧ c2 < n) ∨
    (A u 16 n = 21 ∧ 3 ≤ cl ∧ ∃ x y mid c c2 s : Nat, A u 18 n = ((x : Nat) : Int) ∧ XPc u f o 2 x lo mid a c q s ∧ A u 19 n = ((y : Nat) : Int) ∧ XPc u f (o + 1) 3 y (mid + 1) hi c c2 s r ∧ c2 < n) ∨
    (A u 16 n = 22 ∧ 2 ≤ cl ∧ ∃ j m c : Nat, A u 18 n = ((m : Nat) : Int) ∧ SFc u (XPc u f o 1) hi c r j m lo a q 0 none none ∧ c < n))
section
variable {u w : MS} {a b n k d lo hi q r l : Nat} {E E2 : Nat → Nat → Nat → Nat → Nat → Nat → Nat → Prop}
theorem KNc.sub {a2 b2 n2 : Nat} (h : KNc u w a b n) (h1 : a ≤ a2) (h2 : b2 ≤ b) (h3 : n ≤ a2 ∨ b2 < n ∨ n2 = n) : KNc u w a2 b2 n2 := ⟨h.1, fun k k1 k2 => ⟨(h.2 k (by omega) (by omega)).1, fun k3 => (h.2 k (by omega) (by omega)).2 (by omega)⟩⟩
theorem KNc.nx (h : KNc u w a b n) (hk : a < k ∧ k ≤ b) (hn : k ≠ n) : A w 21 k = A u 21 k := (h.2 k hk.1 hk.2).2 hn
theorem KNc.g (h : KNc u w a b n) (hk : a < k ∧ k ≤ b) : A w 16 k = A u 16 k ∧ A w 17 k = A u 17 k ∧ A w 18 k = A u 18 k ∧ A w 19 k = A u 19 k ∧ A w 20 k = A u 20 k := (h.2 k hk.1 hk.2).1
def StE (u w : MS) (E E2 : Nat → Nat → Nat → Nat → Nat → Nat → Nat → Prop) : Prop := ∀ n lo hi a2 b2 q r, E n lo hi a2 b2 q r → KNc u w a2 b2 n → E2 n lo hi a2 b2 q r
def BdE (E : Nat → Nat → Nat → Nat → Nat → Nat → Nat → Prop) : Prop := ∀ n lo hi a b q r, E n lo hi a b q r → HDc n lo hi a b q r
theorem RW_hd (hb : BdE E) : ∀ {k n lo hi a b q r : Nat}, RWc u d E k n lo hi a b q r → HDc n lo hi a b q r ∧ 1 ≤ k
  | 0, _, _, _, _, _, _, _, h => h.elim
  | k + 1, n, lo, hi, a, b, q, r, h => by
    obtain ⟨m, c, s, e, h | ⟨h1, n2, h2, h3⟩⟩ := h
    · obtain ⟨rfl, -, rfl, rfl, rfl⟩ := h
      exact ⟨hb _ _ _ _ _ _ _ e, by omega⟩
    · obtain ⟨g, -⟩ := RW_hd hb h3
      have := hb _ _ _ _ _ _ _ e
      unfold HDc at *
      refine ⟨⟨?_, ?_, ?_, ?_, ?_⟩, by omega⟩ <;> omega
theorem RW_k (hs : StE u w E E2) (hb : BdE E) : ∀ {k n lo hi a2 b2 q r : Nat}, RWc u d E k n lo hi a2 b2 q r → KNc u w a2 b2 0 → RWc w d E2 k n lo hi a2 b2 q r
  | 0, _, _, _, _, _, _, _, h, _ => h
  | k + 1, n, lo, hi, a2, b2, q, r, h, kn => by
    obtain ⟨m, c, s, e, h⟩ := h
    have g := hb _ _ _ _ _ _ _ e
    have hc : c ≤ b2 := by
      rcases h with ⟨-, -, -, h, -⟩ | ⟨-, n2, -, h3⟩
      · omega
      · have := (RW_hd hb h3).1.1
        omega
    have hn : a2 < n ∧ n ≤ b2 := by have := g.1; omega
    refine ⟨m, c, s, hs _ _ _ _ _ _ _ e (KNc.sub kn (Nat.le_refl _) hc (Or.inl (by omega))), ?_⟩
    rcases h with ⟨h1, h2, h3, h4, h5⟩ | ⟨h1, n2, h2, h3⟩
    · exact Or.inl ⟨h1, by rw [kn.nx hn (by omega)]; exact h2, h3, h4, h5⟩
    · exact Or.inr ⟨h1, n2, by rw [kn.nx hn (by omega)]; exact h2, RW_k hs hb h3 (KNc.sub kn (by have := g.1; omega) (Nat.le_refl _) (Or.inl (by omega)))⟩
theorem OR_k (hs : StE u w E E2) (hb : BdE E) (h : ORc u d E k n lo hi a b q r) (kn : KNc u w a b 0) : ORc w d E2 k n lo hi a b q r := by
  rcases h with h | ⟨h1, h2⟩
  · exact Or.inl h
  · exact Or.inr ⟨h1, RW_k hs hb h2 kn⟩
theorem OR_hd (hb : BdE E) (h : ORc u d E k n lo hi a b q r) : a ≤ b ∧ lo ≤ hi ∧ b + 2 * lo ≤ a + 2 * hi ∧ q ≤ r ∧ 5 * r + lo ≤ 5 * q + hi := by
  rcases h with h | ⟨-, h⟩
  · omega
  · have := (RW_hd hb h).1
    unfold HDc at this
    omega
theorem RP_hd (hb : BdE E) : ∀ {k n l lo hi a b q r : Nat}, RPc u d E k n l lo hi a b q r → (a < l ∧ l ≤ b) ∧ (a < n ∧ n ≤ b) ∧ lo < hi ∧ b + 1 + 2 * lo ≤ a + 2 * hi ∧ q ≤ r ∧ 5 * r + lo ≤ 5 * q + hi
  | 0, _, _, _, _, _, _, _, _, h => h.elim
  | k + 1, n, l, lo, hi, a, b, q, r, h => by
    rcases h with ⟨h1, h2, e⟩ | ⟨h1, l2, m, c, s, h3, h4, e⟩
    · have g := hb _ _ _ _ _ _ _ e
      unfold HDc at g
      omega
    · have g := hb _ _ _ _ _ _ _ e
      have g2 := RP_hd hb h3
      unfold HDc at g
      omega
theorem RP_k (hs : StE u w E E2) (hb : BdE E) : ∀ {k n l lo hi a2 b2 q r : Nat}, RPc u d E k n l lo hi a2 b2 q r → KNc u w a2 b2 l → RPc w d E2 k n l lo hi a2 b2 q r
  | 0, _, _, _, _, _, _, _, _, h, _ => h
  | k + 1, n, l, lo, hi, a2, b2, q, r, h, kn => by
    rcases h with ⟨h1, h2, e⟩ | ⟨h1, l2, m, c, s, h3, h4, e⟩
    · exact Or.inl ⟨h1, h2, hs _ _ _ _ _ _ _ e kn⟩
    · have g := hb _ _ _ _ _ _ _ e
      have g2 := RP_hd hb h3
      unfold HDc at g
      refine Or.inr ⟨h1, l2, m, c, s, RP_k hs hb h3 (KNc.sub kn (Nat.le_refl _) (by omega) (Or.inr (Or.inl (by omega)))), by rw [kn.nx (by omega) (by omega)]; exact h4, hs _ _ _ _ _ _ _ e (KNc.sub kn (by omega) (Nat.le_refl _) (Or.inr (Or.inr rfl)))⟩
theorem RW_app (hb : BdE E) : ∀ {k n l lo m a c q s j n2 hi b r : Nat}, RPc u d E k n l lo m a c q s → 1 ≤ j → A u 21 l = ((n2 : Nat) : Int) → RWc u d E j n2 (m + d) hi c b s r → RWc u d E (k + j) n lo hi a b q r
  | 0, _, _, _, _, _, _, _, _, _, _, _, _, _, h, _, _, _ => h.elim
  | k + 1, n, l, lo, m, a, c, q, s, j, n2, hi, b, r, h, hj, h2, h3 => by
    rcases h with ⟨rfl, rfl, e⟩ | ⟨h1, l2, m2, c2, s2, h4, h5, e⟩
    · rw [show 0 + 1 + j = j + 1 by omega]
      exact ⟨m, c, s, e, Or.inr ⟨hj, n2, h2, h3⟩⟩
    · rw [show k + 1 + j = k + (j + 1) by omega]
      exact RW_app hb h4 (by omega) h5 ⟨m, c, s, e, Or.inr ⟨hj, n2, h2, h3⟩⟩
theorem RW_of (hb : BdE E) : ∀ {k n l lo hi a b q r : Nat}, RPc u d E k n l lo hi a b q r → A u 21 l = 0 → RWc u d E k n lo hi a b q r
  | 0, _, _, _, _, _, _, _, _, h, _ => h.elim
  | k + 1, n, l, lo, hi, a, b, q, r, h, h0 => by
    rcases h with ⟨rfl, rfl, e⟩ | ⟨h1, l2, m2, c2, s2, h4, h5, e⟩
    · exact ⟨hi, b, r, e, Or.inl ⟨rfl, h0, rfl, rfl, rfl⟩⟩
    · exact RW_app hb h4 (by omega) h5 ⟨hi, b, r, e, Or.inl ⟨rfl, h0, rfl, rfl, rfl⟩⟩
end
