/-! one that was just made: all of it, there and here -/
set_option maxRecDepth 100000
section
variable {b : Int → Nat → Nat → Prop} {q s L e c : Nat} {m w : MS} {H : List Nat} {f : Int}
/-- the numbers of one that was just made, there -/
def NWm (q e L : Nat) (f : Int) (H : List Nat) (m : MS) : Prop := (m.1 (pq q 5) = 0 ∧ F m (pq q 24) = ((L : Nat) : Int) ∧ F m (pq q 26) = 0 ∧ F m (pq q 7) = 0 ∧ F m (pq q 21) = 1 ∧ F m (pq q 28) = 0 ∧ F m (pq q 9) = 0) ∧ (m.1 (pq q 11) = 0 ∧ m.1 (pq q 12) = -1 ∧ m.1 (pq q 13) = 0 ∧ m.1 (pq q 15) = 0 ∧ m.1 (pq q 29) = 0) ∧ (A m (pq q 30) 0 = f ∧ A m (pq q 30) 1 = 0 ∧ A m (pq q 30) 2 = 0 ∧ A m (pq q 30) 3 = 0 ∧ A m (pq q 30) 4 = ((e : Nat) : Int)) ∧ ∀ i x : Nat, H[i]? = some x → A m (pq q 32) i = ((x : Nat) : Int)
/-- the same, here -/
def NWw (q L : Nat) (f : Int) (w : MS) : Prop := (w.2.2.1 90 q = 0 ∧ A w 94 q = ((L : Nat) : Int) ∧ A w 92 q = 0 ∧ A w 108 q = 0 ∧ A w 95 q = 1 ∧ A w 106 q = 0 ∧ A w 109 q = 5) ∧ (w.2.2.1 112 q = 0 ∧ w.2.2.1 113 q = -1 ∧ w.2.2.1 114 q = 0 ∧ w.2.2.1 117 q = 0 ∧ w.2.2.1 115 q = 0) ∧ A w 96 (60 * q) = f ∧ A w 97 (60 * q) = -1 ∧ A w 99 (60 * q) = 0 ∧ A w 100 (60 * q) = 0 ∧ A w 101 (60 * q) = ((L : Nat) : Int)
theorem new_al (hm : NWm q e L f H m) (hw : NWw q L f w) (hL : H.length = L) (h4 : F m (pq q 4) = ((s : Nat) : Int) ∧ A w 89 q = ((s : Nat) : Int)) (hs : s ≤ 500) (is : ISb b (m.2.2.2 (pq q 2)) s (hp w q) s) (held : ∀ i, i < L → RTb b (m.2.2.2 (pq q 33) i) (w.2.2.2 93 (2500 * q + i))) (hf : (0 ≤ f ∧ A w 50 f.toNat = ((c : Nat) : Int)) ∨ (f = -1 ∧ ∃ u : Nat, A w 170 q = ((u : Nat) : Int) ∧ A w 53 u = ((c : Nat) : Int))) (nd : H.Nodup) (zr : ∃ g g2, ZRs (A m 23) (ROs w) (w.2.2.2 34) (CRs (A m 23) (ROs w) (w.2.2.2 34) g) 0 0 H [] g2 e ((c : Nat) : Int)) : PLs b q m w s L 0 0 ∧ SCs q m w ∧ WTr q m w := by
  obtain ⟨⟨a1, a2, a3, a4, a5, a6, a7⟩, ⟨a8, a9, a10, a11, a12⟩, ⟨a13, a14, a15, a16, a17⟩, a18⟩ := hm
  obtain ⟨⟨b1, b2, b3, b4, b5, b6, b7⟩, ⟨b8, b9, b10, b11, b12⟩, b13, b14, b15, b16, b17⟩ := hw
  have e15 : F m (pq q 15) = 0 := by
    show (m.1 (pq q 15)).toInt = 0
    rw [a11]
    rfl
  refine ⟨⟨⟨⟨h4.1, h4.2, hs⟩, is, a1.trans b1.symm⟩, ⟨a2, b2, held⟩, ⟨a3, b3, fun i hi => absurd hi (by omega)⟩, a4, b4, fun i hi => absurd hi (by omega)⟩, ⟨a9.trans b9.symm, a10.trans b10.symm, a8.trans b8.symm, a11.trans b11.symm, a12.trans b12.symm, fun i hi => by omega⟩, 0, fun _ => 0, fun _ => H, fun _ => [], ⟨⟨a5, b5, by omega⟩, fun r hr => ?_, fun r hr => absurd hr (by omega), ?_⟩, ⟨0, a6, b6, by omega, fun c hc => absurd hc (by omega), fun c hc => absurd hc (by omega)⟩, e, a17, Or.inr (Or.inl ⟨a7, b7, rfl, rfl, c, ?_, nd, ?_⟩)⟩
  · have r0 : r = 0 := by omega
    subst r0
    refine ⟨a13.trans b13.symm, Or.inl ⟨b14, a14⟩, ⟨a15, b15⟩, a16.trans b16.symm, by rw [hL]; exact b17, fun i x hx => ?_⟩
    rw [List.append_nil] at hx
    rw [Nat.zero_add]
    exact a18 i x hx
  · show F m (pq q 24) = ((0 + (H ++ []).length : Nat) : Int)
    rw [a2, List.append_nil, hL, Nat.zero_add]
  · rw [b13]
    exact hf
  · obtain ⟨g, g2, z⟩ := zr
    exact ⟨g, g2, z⟩
end
