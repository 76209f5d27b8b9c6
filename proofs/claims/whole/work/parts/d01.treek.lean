/-! the tree of a text with the kinds of its tokens: what its nodes are -/
set_option maxRecDepth 100000
/-- a row of such, d tokens between two of them -/
def RWcK (u : MS) (d z : Nat) (E : Nat → Nat → Nat → Nat → Nat → Nat → Nat → Prop) : Nat → Nat → Nat → Nat → Nat → Nat → Nat → Nat → Prop
  | 0 => fun _ _ _ _ _ _ _ => False
  | k + 1 => fun n lo hi a b q r => ∃ m c s, E n lo m a c q s ∧ ((k = 0 ∧ A u 21 n = 0 ∧ m = hi ∧ c = b ∧ s = r) ∨ ((1 ≤ k ∧ (d = 1 → A u 6 m = ((z : Nat) : Int))) ∧ ∃ n2 : Nat, A u 21 n = ((n2 : Nat) : Int) ∧ RWcK u d z E k n2 (m + d) hi c b s r))
/-- such a row, or none -/
def ORcK (u : MS) (d z : Nat) (E : Nat → Nat → Nat → Nat → Nat → Nat → Nat → Prop) (k n lo hi a b q r : Nat) : Prop := (k = 0 ∧ n = 0 ∧ lo = hi ∧ a = b ∧ q = r) ∨ (1 ≤ k ∧ RWcK u d z E k n lo hi a b q r)
/-- the same, with its last one -/
def RPcK (u : MS) (d z : Nat) (E : Nat → Nat → Nat → Nat → Nat → Nat → Nat → Prop) : Nat → Nat → Nat → Nat → Nat → Nat → Nat → Nat → Nat → Prop
  | 0 => fun _ _ _ _ _ _ _ _ => False
  | k + 1 => fun n l lo hi a b q r => (k = 0 ∧ n = l ∧ E l lo hi a b q r) ∨ (1 ≤ k ∧ ∃ l2 m c s : Nat, RPcK u d z E k n l2 lo m a c q s ∧ (A u 21 l2 = ((l : Nat) : Int) ∧ (d = 1 → A u 6 m = ((z : Nat) : Int))) ∧ E l (m + d) hi c b s r)
/-- a list of parts -/
def TLcK (u : MS) (E : Nat → Nat → Nat → Nat → Nat → Nat → Nat → Prop) (n lo hi a q r : Nat) : Prop := ∃ k m mid c s : Nat, A u 18 n = ((m : Nat) : Int) ∧ A u 19 n = ((k : Nat) : Int) ∧ (k ≤ 8 ∧ A u 6 lo = 24 ∧ A u 6 (hi - 1) = 25) ∧ ORcK u 1 26 E k m (lo + 1) mid a c q s ∧ ((A u 20 n = 0 ∧ hi = mid + 1 ∧ s = r ∧ c < n) ∨ ((1 ≤ k ∧ A u 6 mid = 29) ∧ ∃ x c2 : Nat, A u 20 n = ((x : Nat) : Int) ∧ E x (mid + 1) (hi - 1) c c2 s r ∧ c2 < n))
def TUcK (u : MS) (E : Nat → Nat → Nat → Nat → Nat → Nat → Nat → Prop) (n lo hi a q r : Nat) : Prop := ∃ k m c : Nat, A u 18 n = ((m : Nat) : Int) ∧ A u 19 n = ((k : Nat) : Int) ∧ (k ≤ 8 ∧ A u 6 lo = 22 ∧ A u 6 (hi - 1) = 23) ∧ ORcK u 1 26 E k m (lo + 1) (hi - 1) a c q r ∧ c < n
/-- patterns -/
def PAcK (u : MS) : Nat → Nat → Nat → Nat → Nat → Nat → Nat → Nat → Prop
  | 0 => fun _ _ _ _ _ _ _ => False
  | f + 1 => fun n lo hi a b q r => HDc n lo hi a b q r ∧ TKc u n lo hi ∧ q = r ∧ ((LFc u n lo ∧ hi = lo + 1) ∨ (A u 16 n = 17 ∧ ∃ m : Nat, A u 18 n = ((m : Nat) : Int) ∧ (a < m ∧ m ≤ b ∧ m ≠ n) ∧ LFc u m (lo + 1) ∧ A u 6 (lo + 1) = 1 ∧ (hi = lo + 2 ∧ A u 6 lo = 34)) ∨ (A u 16 n = 5 ∧ ∃ m c : Nat, A u 18 n = ((m : Nat) : Int) ∧ PAcK u f m (lo + 1) (hi - 1) a c q r ∧ (c < n ∧ A u 6 lo = 20 ∧ A u 6 (hi - 1) = 21)) ∨ (A u 16 n = 6 ∧ TUcK u (PAcK u f) n lo hi a q r) ∨ (A u 16 n = 7 ∧ TLcK u (PAcK u f) n lo hi a q r))
/-- a PART: its patterns stand from pl to ph, the rest from r0 on -/
def PRTcK (u : MS) (Pa E G : Nat → Nat → Nat → Nat → Nat → Nat → Nat → Prop) (k n pl ph r0 hi a b q r : Nat) : Prop := (a < n ∧ n ≤ b) ∧ A u 16 n = 25 ∧ TKc u n 0 hi ∧ ∃ m c g m2 c1 s kb mb c2 : Nat, (A u 18 n = ((m : Nat) : Int) ∧ ORcK u 1 26 Pa k m pl ph a c q q) ∧ (A u 19 n = ((g : Nat) : Int) ∧ ((g = 0 ∧ m2 = r0 ∧ c1 = c ∧ s = q) ∨ ((1 ≤ g ∧ A u 6 r0 = 19) ∧ ∃ kg, RWcK u 1 26 G kg g (r0 + 1) m2 c c1 q s))) ∧ (A u 20 n = ((mb : Nat) : Int) ∧ RWcK u 1 26 E kb mb (m2 + 1) hi c1 c2 s r) ∧ (c2 < n ∧ A u 6 m2 = 38)
def CSPcK (u : MS) (Pa E G : Nat → Nat → Nat → Nat → Nat → Nat → Nat → Prop) (n lo hi a b q r : Nat) : Prop := HDc n lo hi a b q r ∧ ∃ m1, PRTcK u Pa E G 1 n lo m1 m1 hi a b q r
/-- a CHOICE -/
def CHPcK (u : MS) (E G : Nat → Nat → Nat → Nat → Nat → Nat → Nat → Prop) (n lo hi a b q r : Nat) : Prop := HDc n lo hi a b q r ∧ A u 16 n = 25 ∧ TKc u n 0 hi ∧ A u 18 n = 0 ∧ ∃ g kg m2 c1 s kb mb c2 : Nat, (A u 19 n = ((g : Nat) : Int) ∧ 1 ≤ g ∧ RWcK u 1 26 G kg g lo m2 a c1 q s) ∧ (A u 20 n = ((mb : Nat) : Int) ∧ RWcK u 1 26 E kb mb (m2 + 1) hi c1 c2 s r) ∧ (c2 < n ∧ A u 6 m2 = 38)
/-- ARGUMENTS -/
def AGcK (u : MS) (E : Nat → Nat → Nat → Nat → Nat → Nat → Nat → Prop) (n lo hi a b q r : Nat) : Prop := HDc n lo hi a b q r ∧ A u 16 n = 16 ∧ ∃ k m c : Nat, A u 18 n = ((m : Nat) : Int) ∧ A u 19 n = ((k : Nat) : Int) ∧ (k ≤ 6 ∧ A u 6 lo = 20 ∧ A u 6 (hi - 1) = 21) ∧ ORcK u 1 26 E k m (lo + 1) (hi - 1) a c q r ∧ c < n
/-- all that bind more tightly than the sign y have been closed -/
def CLOk (u : MS) (y : Nat) (S : List Nat) : Prop := ∀ t S2, S = t :: S2 → rnkc (A u 6 t) < rnkc (A u 6 y) ∨ (rnkc (A u 6 t) = 4 ∧ rnkc (A u 6 y) = 4)
/-- the sign t is closed ahead of y -/
def POPk (u : MS) (y t : Nat) : Prop := rnkc (A u 6 y) ≤ rnkc (A u 6 t) ∧ ¬ (rnkc (A u 6 t) = 4 ∧ rnkc (A u 6 y) = 4) ∧ ¬ (rnkc (A u 6 t) = 3 ∧ rnkc (A u 6 y) = 3)
/-- one node of units and signs: S the signs that wait, g: a unit stands before it -/
def STPcK (u : MS) (E : Nat → Nat → Nat → Nat → Nat → Nat → Nat → Prop) (l x x2 c c2 q r : Nat) (S : List Nat) (g : Bool) (S2 : List Nat) (g2 : Bool) : Prop :=
  ((∃ m, E l x m c c2 q r ∧ x2 = m + 1) ∧ g2 = true ∧ ((g = false ∧ S2 = S) ∨ (g = true ∧ S2 = (x - 1) :: S ∧ 3 ≤ rnkc (A u 6 (x - 1)) ∧ CLOk u (x - 1) S))) ∨
  ((x2 = x ∧ c < l ∧ c2 = l ∧ r = q) ∧ g = true ∧
    ((A u 16 l = 24 ∧ A u 17 l = ((x - 1 : Nat) : Int) ∧ A u 18 l = A u 6 (x - 1) ∧ (A u 6 (x - 1) = 6 ∨ A u 6 (x - 1) = 16) ∧ CLOk u (x - 1) S ∧ S2 = (x - 1) :: S ∧ g2 = false) ∨
    (A u 16 l = 23 ∧ ∃ t : Nat, S = t :: S2 ∧ A u 17 l = ((t : Nat) : Int) ∧ A u 18 l = A u 6 t ∧ POPk u (x - 1) t ∧ g2 = true)))
/-- from here on -/
def SFcK (u : MS) (E : Nat → Nat → Nat → Nat → Nat → Nat → Nat → Prop) (hi b r : Nat) : Nat → Nat → Nat → Nat → Nat → List Nat → Bool → Prop
  | 0 => fun n x c q S g => n = 0 ∧ x = hi + 1 ∧ c = b ∧ q = r ∧ S = [] ∧ g = true
  | j + 1 => fun n x c q S g => 1 ≤ n ∧ ∃ n2 x2 c2 q2 S2 g2, STPcK u E n x x2 c c2 q q2 S g S2 g2 ∧ A u 21 n = ((n2 : Nat) : Int) ∧ SFcK u E hi b r j n2 x2 c2 q2 S2 g2
/-- up to here -/
def SPcK (u : MS) (E : Nat → Nat → Nat → Nat → Nat → Nat → Nat → Prop) (n lo a q : Nat) : Nat → Nat → Nat → Nat → Nat → List Nat → Bool → Prop
  | 0 => fun _ _ _ _ _ _ => False
  | j + 1 => fun l x c r S g => (j = 0 ∧ n = l ∧ 1 ≤ l ∧ STPcK u E l lo x a c q r [] false S g) ∨ (1 ≤ j ∧ 1 ≤ l ∧ ∃ l2 x2 c2 r2 S2 g2, SPcK u E n lo a q j l2 x2 c2 r2 S2 g2 ∧ A u 21 l2 = ((l : Nat) : Int) ∧ STPcK u E l x2 x c2 c r2 r S2 g2 S g)
/-- an E: o of them are open; cl: 3 E, 2 signs, 1 unit, 0 PRIMARY -/
def XPcK (u : MS) : Nat → Nat → Nat → Nat → Nat → Nat → Nat → Nat → Nat → Nat → Prop
  | 0 => fun _ _ _ _ _ _ _ _ _ => False
  | f + 1 => fun o cl n lo hi a b q r => HDc n lo hi a b q r ∧ TKc u n lo hi ∧ o ≤ 25 ∧ (
    (LFc u n lo ∧ (hi = lo + 1 ∧ (A u 6 lo = 2 → A u 6 (lo + 1) ≠ 20)) ∧ q = r) ∨
    (A u 16 n = 5 ∧ ∃ m c : Nat, A u 18 n = ((m : Nat) : Int) ∧ XPcK u f (o + 1) 3 m (lo + 1) (hi - 1) a c q r ∧ (c < n ∧ A u 6 lo = 20 ∧ A u 6 (hi - 1) = 21 ∧ A u 17 n = ((lo : Nat) : Int))) ∨
    (A u 16 n = 6 ∧ TUcK u (XPcK u f (o + 1) 3) n lo hi a q r ∧ A u 17 n = ((lo : Nat) : Int)) ∨
    (A u 16 n = 7 ∧ TLcK u (XPcK u f (o + 1) 3) n lo hi a q r ∧ A u 17 n = ((lo : Nat) : Int)) ∨
    (A u 16 n = 8 ∧ ∃ k m c : Nat, A u 18 n = ((m : Nat) : Int) ∧ RWcK u 1 26 (XPcK u f (o + 2) 3) k m (lo + 1) (hi - 1) a c q r ∧ (c < n ∧ A u 6 lo = 7 ∧ A u 6 (hi - 1) = 11 ∧ A u 17 n = ((lo : Nat) : Int))) ∨
    (A u 16 n = 9 ∧ ∃ x mid c s k m c2 : Nat, A u 18 n = ((x : Nat) : Int) ∧ XPcK u f (o + 1) 3 x (lo + 1) mid a c q s ∧ A u 19 n = ((m : Nat) : Int) ∧ RWcK u 1 27 (CSPcK u (PAcK u f) (XPcK u f (o + 2) 3) (XPcK u f (o + 1) 3)) k m (mid + 1) (hi - 1) c c2 s r ∧ (c2 < n ∧ A u 6 lo = 8 ∧ A u 6 mid = 15 ∧ A u 6 (hi - 1) = 11 ∧ A u 17 n = ((lo : Nat) : Int))) ∨
    (A u 16 n = 10 ∧ ∃ k m c : Nat, A u 19 n = ((m : Nat) : Int) ∧ RWcK u 1 27 (CHPcK u (XPcK u f (o + 2) 3) (XPcK u f (o + 1) 3)) k m (lo + 1) (hi - 1) a c q r ∧ (c < n ∧ A u 6 lo = 13 ∧ A u 6 (hi - 1) = 11 ∧ A u 17 n = ((lo : Nat) : Int))) ∨
    (A u 16 n = 11 ∧ ∃ k m m1 c1 s1 : Nat, A u 19 n = ((m : Nat) : Int) ∧ ORcK u 1 27 (CSPcK u (PAcK u f) (XPcK u f (o + 2) 3) (XPcK u f (o + 1) 3)) k m (lo + 1) m1 a c1 q s1 ∧ ((A u 18 n = 0 ∧ A u 20 n = 0 ∧ 1 ≤ k ∧ hi = m1 + 1 ∧ s1 = r ∧ (c1 < n ∧ A u 6 lo = 17 ∧ A u 6 (hi - 1) = 11 ∧ A u 17 n = ((lo : Nat) : Int))) ∨ ∃ x m2 c2 s2 kb mb c3 : Nat, 1 ≤ x ∧ A u 18 n = ((x : Nat) : Int) ∧ XPcK u f (o + 1) 3 x (m1 + 1) m2 c1 c2 s1 s2 ∧ A u 20 n = ((mb : Nat) : Int) ∧ RWcK u 1 26 (XPcK u f (o + 2) 3) kb mb (m2 + 1) (hi - 1) c2 c3 s2 r ∧ (c3 < n ∧ A u 6 lo = 17 ∧ A u 6 m1 = 5 ∧ A u 6 m2 = 38 ∧ A u 6 (hi - 1) = 11 ∧ A u 17 n = ((lo : Nat) : Int)))) ∨
    (A u 16 n = 12 ∧ ∃ k m ph c : Nat, A u 17 n = ((lo : Nat) : Int) ∧ A u 18 n = (if q < 400 then ((q : Nat) : Int) else 0) ∧ A u 19 n = ((m : Nat) : Int) ∧ A u 20 n = ((hi - 1 : Nat) : Int) ∧ k ≤ 6 ∧ q + 1 ≤ r ∧ PRTcK u (PAcK u f) (XPcK u f (o + 2) 3) (XPcK u f (o + 1) 3) k m (lo + 2) ph (ph + 1) (hi - 1) a c (q + 1) r ∧ (c < n ∧ A u 6 lo = 12 ∧ A u 6 (lo + 1) = 20 ∧ A u 6 ph = 21 ∧ A u 6 (hi - 1) = 11)) ∨
    (A u 16 n = 13 ∧ (hi = lo + 4 ∧ A u 6 lo = 12 ∧ A u 6 (lo + 1) = 2 ∧ A u 6 (lo + 2) = 37 ∧ A u 6 (lo + 3) = 1 ∧ A u 17 n = ((lo : Nat) : Int) ∧ A u 18 n = A u 7 (lo + 1) ∧ A u 19 n = A u 7 (lo + 3)) ∧ q = r) ∨
    (A u 16 n = 14 ∧ A u 17 n = ((lo : Nat) : Int) ∧ ∃ k m a2 c : Nat, A u 19 n = ((m : Nat) : Int) ∧ A u 20 n = ((k : Nat) : Int) ∧ k ≤ 6 ∧ a ≤ a2 ∧ ORcK u 1 26 (XPcK u f (o + 1) 3) k m (lo + 2) (hi - 1) a2 c q r ∧ (c < n ∧ A u 6 lo = 2 ∧ A u 6 (lo + 1) = 20 ∧ A u 6 (hi - 1) = 21 ∧ A u 18 n = A u 7 lo)) ∨
    (A u 16 n = 15 ∧ 1 ≤ cl ∧ ∃ x mid c s k m : Nat, A u 18 n = ((x : Nat) : Int) ∧ XPcK u f o 0 x lo mid a c q s ∧ (c < n ∧ A u 17 n = ((lo : Nat) : Int)) ∧ A u 19 n = ((m : Nat) : Int) ∧ RWcK u 0 0 (AGcK u (XPcK u f (o + 1) 3)) k m mid hi n b s r) ∨
    ((A u 16 n = 17 ∨ A u 16 n = 18) ∧ 1 ≤ cl ∧ ∃ m c : Nat, A u 18 n = ((m : Nat) : Int) ∧ XPcK u f (o + 1) 1 m (lo + 1) hi a c q r ∧ (c < n ∧ (A u 16 n = 17 → A u 6 lo = 34) ∧ (A u 16 n = 18 → A u 6 lo = 14))) ∨
    (A u 16 n = 19 ∧ 3 ≤ cl ∧ ∃ m c : Nat, A u 18 n = ((m : Nat) : Int) ∧ XPcK u f (o + 1) 3 m (lo + 1) hi a c q r ∧ (c < n ∧ A u 6 lo = 9)) ∨
    (A u 16 n = 20 ∧ 3 ≤ cl ∧ ∃ x y mid c c2 : Nat, A u 18 n = ((x : Nat) : Int) ∧ PAcK u f x lo mid a c q q ∧ A u 19 n = ((y : Nat) : Int) ∧ XPcK u f (o + 1) 3 y (mid + 1) hi c c2 q r ∧ (c2 < n ∧ A u 6 mid = 30 ∧ A u 6 (mid + 1) ≠ 9)) ∨
    (A u 16 n = 21 ∧ 3 ≤ cl ∧ ∃ x y mid c c2 s : Nat, A u 18 n = ((x : Nat) : Int) ∧ XPcK u f o 2 x lo mid a c q s ∧ A u 19 n = ((y : Nat) : Int) ∧ XPcK u f (o + 1) 3 y (mid + 1) hi c c2 s r ∧ (c2 < n ∧ A u 6 mid = 36 ∧ A u 6 (mid + 1) ≠ 9)) ∨
    (A u 16 n = 22 ∧ 2 ≤ cl ∧ ∃ j m c : Nat, A u 18 n = ((m : Nat) : Int) ∧ SFcK u (XPcK u f o 1) hi c r j m lo a q [] false ∧ (c < n ∧ 2 ≤ j)))
section
variable {u w : MS} {a b n k d z lo hi q r l : Nat} {E E2 : Nat → Nat → Nat → Nat → Nat → Nat → Nat → Prop}
theorem KNc.a6 (h : KNc u w a b n) : A w 6 k = A u 6 k := by show (w.2.2.1 6 k).toInt = _; rw [h.1.1]; rfl
theorem KNc.a7 (h : KNc u w a b n) : A w 7 k = A u 7 k := by show (w.2.2.1 7 k).toInt = _; rw [h.1.2]; rfl
theorem RW_hdK (hb : BdE E) : ∀ {k n lo hi a b q r : Nat}, RWcK u d z E k n lo hi a b q r → HDc n lo hi a b q r ∧ 1 ≤ k
  | 0, _, _, _, _, _, _, _, h => h.elim
  | k + 1, n, lo, hi, a, b, q, r, h => by
    obtain ⟨m, c, s, e, h | ⟨h1, n2, h2, h3⟩⟩ := h
    · obtain ⟨rfl, -, rfl, rfl, rfl⟩ := h
      exact ⟨hb _ _ _ _ _ _ _ e, by omega⟩
    · obtain ⟨g, -⟩ := RW_hdK hb h3
      have := hb _ _ _ _ _ _ _ e
      unfold HDc at *
      refine ⟨⟨?_, ?_, ?_, ?_, ?_⟩, by omega⟩ <;> omega
theorem RW_kK (hs : StE u w E E2) (hb : BdE E) : ∀ {k n lo hi a2 b2 q r : Nat}, RWcK u d z E k n lo hi a2 b2 q r → KNc u w a2 b2 0 → RWcK w d z E2 k n lo hi a2 b2 q r
  | 0, _, _, _, _, _, _, _, h, _ => h
  | k + 1, n, lo, hi, a2, b2, q, r, h, kn => by
    obtain ⟨m, c, s, e, h⟩ := h
    have g := hb _ _ _ _ _ _ _ e
    have hc : c ≤ b2 := by
      rcases h with ⟨-, -, -, h, -⟩ | ⟨-, n2, -, h3⟩
      · omega
      · have := (RW_hdK hb h3).1.1
        omega
    have hn : a2 < n ∧ n ≤ b2 := by have := g.1; omega
    refine ⟨m, c, s, hs _ _ _ _ _ _ _ e (KNc.sub kn (Nat.le_refl _) hc (Or.inl (by omega))), ?_⟩
    rcases h with ⟨h1, h2, h3, h4, h5⟩ | ⟨h1, n2, h2, h3⟩
    · exact Or.inl ⟨h1, by rw [kn.nx hn (by omega)]; exact h2, h3, h4, h5⟩
    · exact Or.inr ⟨⟨h1.1, fun d1 => by rw [kn.a6]; exact h1.2 d1⟩, n2, by rw [kn.nx hn (by omega)]; exact h2, RW_kK hs hb h3 (KNc.sub kn (by have := g.1; omega) (Nat.le_refl _) (Or.inl (by omega)))⟩
theorem OR_kK (hs : StE u w E E2) (hb : BdE E) (h : ORcK u d z E k n lo hi a b q r) (kn : KNc u w a b 0) : ORcK w d z E2 k n lo hi a b q r := by
  rcases h with h | ⟨h1, h2⟩
  · exact Or.inl h
  · exact Or.inr ⟨h1, RW_kK hs hb h2 kn⟩
theorem OR_hdK (hb : BdE E) (h : ORcK u d z E k n lo hi a b q r) : a ≤ b ∧ lo ≤ hi ∧ b + 2 * lo ≤ a + 2 * hi ∧ q ≤ r ∧ 5 * r + lo ≤ 5 * q + hi := by
  rcases h with h | ⟨-, h⟩
  · omega
  · have := (RW_hdK hb h).1
    unfold HDc at this
    omega
theorem RP_hdK (hb : BdE E) : ∀ {k n l lo hi a b q r : Nat}, RPcK u d z E k n l lo hi a b q r → (a < l ∧ l ≤ b) ∧ (a < n ∧ n ≤ b) ∧ lo < hi ∧ b + 1 + 2 * lo ≤ a + 2 * hi ∧ q ≤ r ∧ 5 * r + lo ≤ 5 * q + hi
  | 0, _, _, _, _, _, _, _, _, h => h.elim
  | k + 1, n, l, lo, hi, a, b, q, r, h => by
    rcases h with ⟨h1, h2, e⟩ | ⟨h1, l2, m, c, s, h3, h4, e⟩
    · have g := hb _ _ _ _ _ _ _ e
      unfold HDc at g
      omega
    · have g := hb _ _ _ _ _ _ _ e
      have g2 := RP_hdK hb h3
      unfold HDc at g
      omega
theorem RP_kK (hs : StE u w E E2) (hb : BdE E) : ∀ {k n l lo hi a2 b2 q r : Nat}, RPcK u d z E k n l lo hi a2 b2 q r → KNc u w a2 b2 l → RPcK w d z E2 k n l lo hi a2 b2 q r
  | 0, _, _, _, _, _, _, _, _, h, _ => h
  | k + 1, n, l, lo, hi, a2, b2, q, r, h, kn => by
    rcases h with ⟨h1, h2, e⟩ | ⟨h1, l2, m, c, s, h3, h4, e⟩
    · exact Or.inl ⟨h1, h2, hs _ _ _ _ _ _ _ e kn⟩
    · have g := hb _ _ _ _ _ _ _ e
      have g2 := RP_hdK hb h3
      unfold HDc at g
      refine Or.inr ⟨h1, l2, m, c, s, RP_kK hs hb h3 (KNc.sub kn (Nat.le_refl _) (by omega) (Or.inr (Or.inl (by omega)))), ⟨by rw [kn.nx (by omega) (by omega)]; exact h4.1, fun d1 => by rw [kn.a6]; exact h4.2 d1⟩, hs _ _ _ _ _ _ _ e (KNc.sub kn (by omega) (Nat.le_refl _) (Or.inr (Or.inr rfl)))⟩
/-- from the one form to the other -/
theorem RW_appK (hb : BdE E) : ∀ {k n l lo m a c q s j n2 hi b r : Nat}, RPcK u d z E k n l lo m a c q s → 1 ≤ j ∧ (d = 1 → A u 6 m = ((z : Nat) : Int)) → A u 21 l = ((n2 : Nat) : Int) → RWcK u d z E j n2 (m + d) hi c b s r → RWcK u d z E (k + j) n lo hi a b q r
  | 0, _, _, _, _, _, _, _, _, _, _, _, _, _, h, _, _, _ => h.elim
  | k + 1, n, l, lo, m, a, c, q, s, j, n2, hi, b, r, h, hj, h2, h3 => by
    rcases h with ⟨rfl, rfl, e⟩ | ⟨h1, l2, m2, c2, s2, h4, h5, e⟩
    · rw [show 0 + 1 + j = j + 1 by omega]
      exact ⟨m, c, s, e, Or.inr ⟨hj, n2, h2, h3⟩⟩
    · rw [show k + 1 + j = k + (j + 1) by omega]
      exact RW_appK hb h4 ⟨by omega, h5.2⟩ h5.1 ⟨m, c, s, e, Or.inr ⟨hj, n2, h2, h3⟩⟩
theorem RW_ofK (hb : BdE E) : ∀ {k n l lo hi a b q r : Nat}, RPcK u d z E k n l lo hi a b q r → A u 21 l = 0 → RWcK u d z E k n lo hi a b q r
  | 0, _, _, _, _, _, _, _, _, h, _ => h.elim
  | k + 1, n, l, lo, hi, a, b, q, r, h, h0 => by
    rcases h with ⟨rfl, rfl, e⟩ | ⟨h1, l2, m2, c2, s2, h4, h5, e⟩
    · exact ⟨hi, b, r, e, Or.inl ⟨rfl, h0, rfl, rfl, rfl⟩⟩
    · exact RW_appK hb h4 ⟨by omega, h5.2⟩ h5.1 ⟨hi, b, r, e, Or.inl ⟨rfl, h0, rfl, rfl, rfl⟩⟩
end
