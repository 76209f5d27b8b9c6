/-! processes and all that is around them, there and here -/
set_option maxRecDepth 100000
/-- cells, names, waiting terms, BOX of process q: there, here -/
def PLs (b : Int → Nat → Nat → Prop) (q : Nat) (m w : MS) (U B W Y : Nat) : Prop :=
  ((F m (pq q 4) = ((U : Nat) : Int) ∧ A w 89 q = ((U : Nat) : Int) ∧ U ≤ 500) ∧ ISb b (m.2.2.2 (pq q 2)) U (hp w q) U ∧ m.1 (pq q 5) = w.2.2.1 90 q) ∧
  (F m (pq q 24) = ((B : Nat) : Int) ∧ A w 94 q = ((B : Nat) : Int) ∧ ∀ i, i < B → RTb b (m.2.2.2 (pq q 33) i) (w.2.2.2 93 (2500 * q + i))) ∧
  (F m (pq q 26) = ((W : Nat) : Int) ∧ A w 92 q = ((W : Nat) : Int) ∧ ∀ i, i < W → RTb b (m.2.2.2 (pq q 35) i) (w.2.2.2 91 (46000 * q + i))) ∧
  (F m (pq q 7) = ((Y : Nat) : Int) ∧ A w 108 q = ((Y : Nat) : Int) ∧ ∀ i, i < Y → RTb b (m.2.2.2 (pq q 6) i) (w.2.2.2 107 (30 * q + i)))
/-- what a process is besides: name, CALLS, links, traps, the line of a CALL -/
def SCs (q : Nat) (m w : MS) : Prop := m.1 (pq q 12) = w.2.2.1 113 q ∧ m.1 (pq q 13) = w.2.2.1 114 q ∧ m.1 (pq q 11) = w.2.2.1 112 q ∧ m.1 (pq q 15) = w.2.2.1 117 q ∧ m.1 (pq q 29) = w.2.2.1 115 q ∧ ∀ i : Nat, ((i : Nat) : Int) < F m (pq q 15) → m.2.2.1 (pq q 14) i = w.2.2.1 116 (24 * q + i)
/-- the line of a CLAUSE -/
def LNs (w : MS) (c : Int) (l : Int) : Prop := (c = -1 ∧ l = 0) ∨ ∃ k t : Nat, c = ((k : Nat) : Int) ∧ A w 44 k = ((t : Nat) : Int) ∧ l = A w 8 t
/-- the names of a FRAME -/
def NMs (m : MS) (q base : Nat) (L : List Nat) : Prop := ∀ i x : Nat, L[i]? = some x → A m (pq q 32) (base + i) = ((x : Nat) : Int)
/-- one FRAME -/
def FLs (m w : MS) (q r nb : Nat) (H O : List Nat) : Prop := A m (pq q 30) (5 * r) = A w 96 (60 * q + r) ∧ LNs w (A w 97 (60 * q + r)) (A m (pq q 30) (5 * r + 1)) ∧ (A m (pq q 30) (5 * r + 2) = ((nb : Nat) : Int) ∧ A w 99 (60 * q + r) = ((nb : Nat) : Int)) ∧ A m (pq q 30) (5 * r + 3) = A w 100 (60 * q + r) ∧ A w 101 (60 * q + r) = ((H.length : Nat) : Int) ∧ NMs m q nb (H ++ O)
/-- all FRAMES of process q; j lie below the uppermost -/
def FAs (m w : MS) (q j : Nat) (nb : Nat → Nat) (Hs Os : Nat → List Nat) : Prop :=
  (F m (pq q 21) = ((j + 1 : Nat) : Int) ∧ A w 95 q = ((j + 1 : Nat) : Int) ∧ j < 60) ∧
  (∀ r, r ≤ j → FLs m w q r (nb r) (Hs r) (Os r)) ∧
  (∀ r, r < j → nb (r + 1) = nb r + (Hs r ++ Os r).length ∧ ∃ a n : Nat, A m (pq q 30) (5 * r + 4) = ((a : Nat) : Int) ∧ A w 98 (60 * q + r) = ((n : Nat) : Int) ∧ ∃ f, CRs (A m 23) (ROs w) (w.2.2.2 34) f none a n (Hs r) (Os r)) ∧
  (F m (pq q 24) = ((nb j + (Hs j ++ Os j).length : Nat) : Int))
/-- its catches -/
def CTs (m w : MS) (q j : Nat) (nb : Nat → Nat) (Hs Os : Nat → List Nat) : Prop :=
  ∃ n : Nat, F m (pq q 28) = ((n : Nat) : Int) ∧ A w 106 q = ((n : Nat) : Int) ∧ n ≤ 1600 ∧ (∀ c, c + 1 < n → A w 102 (1600 * q + c) ≤ A w 102 (1600 * q + (c + 1)) ∧ A w 105 (1600 * q + c) ≤ A w 105 (1600 * q + (c + 1))) ∧ ∀ c, c < n → ∃ r k a nd nn : Nat, r ≤ j ∧
    A m (pq q 37) (4 * c) = ((r + 1 : Nat) : Int) ∧ A w 102 (1600 * q + c) = ((r : Nat) : Int) ∧
    A m (pq q 37) (4 * c + 1) = ((nb r + (Hs r).length + k : Nat) : Int) ∧ A w 105 (1600 * q + c) = ((nb r + (Hs r).length + k : Nat) : Int) ∧ k ≤ (Os r).length ∧
    A m (pq q 37) (4 * c + 2) = A w 104 (1600 * q + c) ∧
    A m (pq q 37) (4 * c + 3) = ((a : Nat) : Int) ∧ A w 103 (1600 * q + c) = ((nd : Nat) : Int) ∧ A w 25 nd = ((nn : Nat) : Int) ∧ ∃ f, CRs (A m 23) (ROs w) (w.2.2.2 34) f none a nn (Hs r) ((Os r).take k)
/-- until when is waited: none, or an hour -/
def DLs (x y : Int64) : Prop := x = y ∧ (y = -1 ∨ 0 ≤ y.toInt)
/-- where a process stands that does not go now -/
def STs9 (m w : MS) (q j : Nat) (H O : List Nat) : Prop :=
  ∃ a : Nat, A m (pq q 30) (5 * j + 4) = ((a : Nat) : Int) ∧
    ((F m (pq q 9) = 0 ∧ A w 109 q = 0 ∧ ∃ n : Nat, A w 98 (60 * q + j) = ((n : Nat) : Int) ∧ ∃ f, CRs (A m 23) (ROs w) (w.2.2.2 34) f none a n H O) ∨
     (F m (pq q 9) = 0 ∧ A w 109 q = 5 ∧ j = 0 ∧ O = [] ∧ ∃ c : Nat, ((0 ≤ A w 96 (60 * q) ∧ A w 50 (A w 96 (60 * q)).toNat = ((c : Nat) : Int)) ∨ (A w 96 (60 * q) = -1 ∧ ∃ u : Nat, A w 170 q = ((u : Nat) : Int) ∧ A w 53 u = ((c : Nat) : Int))) ∧ (H.Nodup ∧ ∃ f g, ZRs (A m 23) (ROs w) (w.2.2.2 34) (CRs (A m 23) (ROs w) (w.2.2.2 34) f) 0 0 H [] g a ((c : Nat) : Int))) ∨
     (F m (pq q 9) = 1 ∧ A w 109 q = 1 ∧ (F m (pq q 8) = F m (pq q 7) ∨ F m (pq q 8) = A w 110 q) ∧ F m (pq q 8) = A w 110 q ∧ DLs (m.2.1 (pq q 10)) (w.2.2.2 111 q) ∧ ∃ n : Nat, A w 98 (60 * q + j) = ((n : Nat) : Int) ∧ A w 23 n = 27 ∧ A w 27 n = ((O.length : Nat) : Int) ∧ (H.Nodup ∧ O.Nodup) ∧ ∃ g, RCs (A m 23) (ROs w) (w.2.2.2 34) (CRs (A m 23) (ROs w) (w.2.2.2 34) g) g a n H O))
/-- a process that has not ENDED -/
def ALs (m w : MS) (q : Nat) : Prop := ∃ b U B W Y j nb Hs Os, PLs b q m w U B W Y ∧ SCs q m w ∧ FAs m w q j nb Hs Os ∧ CTs m w q j nb Hs Os ∧ STs9 m w q j (Hs j) (Os j)
/-- the text of a REASON -/
def RZs (m w : MS) (q : Nat) : Prop := ∃ hm k z : Nat, rf (m.1 (pq q 17)) = some hm ∧ hm < 24 ∧ F m (pq hm 9) = 3 ∧ SZp (m.2.2.2 (pq hm 2)) (LFs (F m 22)) k (m.2.1 (pq q 16)) z ∧ z ≤ 1020 ∧
  A w 132 q = ((min (TXs (m.2.2.2 (pq hm 2)) (ATc m) (m.2.1 (pq q 16))).length 100 : Nat) : Int) ∧ ∀ i, i < min (TXs (m.2.2.2 (pq hm 2)) (ATc m) (m.2.1 (pq q 16))).length 100 → w.2.2.1 131 (100 * q + i) = byS8 ((TXs (m.2.2.2 (pq hm 2)) (ATc m) (m.2.1 (pq q 16))).getD i 0)
/-- one that has, and all that comes of it has come -/
def DEs (m w : MS) (q : Nat) : Prop := F m (pq q 9) = 3 ∧ A w 109 q = 3 ∧ RZs m w q ∧ (m.1 (pq q 12) = I (-1) ∧ w.2.2.1 113 q = I (-1)) ∧ m.1 (pq q 13) = w.2.2.1 114 q ∧ m.1 (pq q 5) = w.2.2.1 90 q ∧ (F m (pq q 15) = 0 ∧ A w 117 q = 0)
/-- time, REFERENCES, CALLS, watches, lines -/
def WGs (m w : MS) (PR : Nat) : Prop :=
  (F m 942 = ((PR : Nat) : Int) ∧ F w 118 = ((PR : Nat) : Int)) ∧ m.1 944 = w.1 120 ∧ m.1 945 = w.1 121 ∧ m.1 946 = w.1 119 ∧
  (m.1 950 = w.1 125 ∧ ∀ i : Nat, ((i : Nat) : Int) < F m 950 → m.2.2.1 49 i = w.2.2.1 123 i ∧ m.2.2.1 50 i = w.2.2.1 124 i ∧ m.2.2.1 51 i = w.2.2.1 122 i) ∧
  (m.1 953 = w.1 128 ∧ ∀ l : Nat, ((l : Nat) : Int) < F m 953 → m.2.2.1 53 l = w.2.2.1 127 l ∧ ∀ i : Nat, ((i : Nat) : Int) < A m 53 l → m.2.2.1 52 (100 * l + i) = w.2.2.1 126 (100 * l + i))
/-- the atoms -/
def ATs9 (m w : MS) : Prop := ∀ a : Nat, ((a : Nat) : Int) < F w 14 → ATc m a = ATr w a
section
variable {b : Int → Nat → Nat → Prop} {m w : MS} {q U B W Y : Nat}
theorem PLs_z (p : PLs b q m w U B W Y) (h : F w 140 ≠ ((q : Nat) : Int)) : RTZ b m w q B W Y W B Y := by
  obtain ⟨-, ⟨-, -, p1⟩, ⟨-, -, p2⟩, -, -, p3⟩ := p
  refine ⟨fun K i c _ => Or.inl ?_, fun K i c _ => ?_, fun e => absurd e h⟩
  · rcases c with ⟨rfl, c⟩ | ⟨rfl, c⟩ | ⟨rfl, c⟩
    · exact ⟨93, 2500 * q + i, Or.inr (Or.inl ⟨rfl, by omega, by omega⟩), p1 i c⟩
    · exact ⟨91, 46000 * q + i, Or.inl ⟨rfl, by omega, by omega⟩, p2 i c⟩
    · exact ⟨107, 30 * q + i, Or.inr (Or.inr ⟨rfl, by omega, by omega⟩), p3 i c⟩
  · rcases c with ⟨rfl, c1, c2⟩ | ⟨rfl, c1, c2⟩ | ⟨rfl, c1, c2⟩
    · have := p2 (i - 46000 * q) (by omega)
      rw [show 46000 * q + (i - 46000 * q) = i by omega] at this
      exact ⟨pq q 35, i - 46000 * q, Or.inr (Or.inl ⟨rfl, by omega⟩), this⟩
    · have := p1 (i - 2500 * q) (by omega)
      rw [show 2500 * q + (i - 2500 * q) = i by omega] at this
      exact ⟨pq q 33, i - 2500 * q, Or.inl ⟨rfl, by omega⟩, this⟩
    · have := p3 (i - 30 * q) (by omega)
      rw [show 30 * q + (i - 30 * q) = i by omega] at this
      exact ⟨pq q 6, i - 30 * q, Or.inr (Or.inr ⟨rfl, by omega⟩), this⟩
end
