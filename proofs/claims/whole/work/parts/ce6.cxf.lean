/-! the terms of p, here, out of those there, as long as the cells stay -/
set_option maxRecDepth 100000
section
variable {b : Int → Nat → Nat → Prop} {Fv Fv' : Int64 → Int64 → Prop} {P P' : Int64 → Prop} {p U B W Y : Nat} {ow kd ow' kd' : Nat → Nat} {m w : MS}
/-- only blocks that are good here -/
def bGd (b : Int → Nat → Nat → Prop) (U : Nat) (ow' kd' : Nat → Nat) (k : Int) (a c : Nat) : Prop := b k a c ∧ c < U ∧ ow' c = c ∧ ((kd' c : Nat) : Int) = k
theorem bGd_t {t x : Int64} (r : RTb b t x) (g : GT U ow' kd' P' x) : RTb (bGd b U ow' kd') t x := by
  rcases r with r | ⟨r1, r2, r3, r4⟩
  · exact Or.inl r
  · have zx : isH x := by unfold isH; rw [r2]; exact r1
    rcases g with g | ⟨-, g1, g2, g3, g4⟩
    · exact absurd zx g.1
    · exact Or.inr ⟨r1, r2, r3, r4, g2, g3, by rw [g4, r2]⟩
theorem bGd_i {h h' : Nat → Int64} (s : ISb b h U h' U) (g : HP h' U ow' kd' Fv' P') : ISb (bGd b U ow' kd') h U h' U := by
  refine ⟨fun t x z r => ?_, fun k l a c a2 c2 h1 h2 => s.2.1 k l a c a2 c2 h1.1 h2.1, fun k a c h => s.2.2 k a c h.1⟩
  obtain ⟨⟨v1, v2⟩, b1, b2, b3, b4⟩ := RTb_h r z
  have so1 := RTb_so r
  have zx := (RTb_isH r).mpr z
  have rb : RTb b t x := Or.inr ⟨z, so1, ⟨v1, v2⟩, b1⟩
  obtain ⟨⟨e1, e2, e3⟩, e4, e5⟩ := s.1 t x z rb
  refine ⟨⟨e1, e2, e3⟩, fun j h1 h2 => ?_, e5⟩
  have gx : GT U ow' kd' P' x := Or.inr ⟨zx, v2, b2, b3, by rw [b4, so1]⟩
  obtain ⟨f, sz, q, -⟩ := g x zx gx
  cases f with
  | zero => exact q.elim
  | succ f =>
    rcases q with ⟨q, -⟩ | ⟨-, -, c, q3, -⟩
    · exact absurd zx q
    · exact bGd_t (e4 j h1 h2) (SZ_gt (q3 j (by rw [RTb_prt rb]; exact h1) (by rw [e1]; exact h2)))
/-- the same terms, only good blocks -/
theorem PLs_gd (pl : PLs b p m w U B W Y) (xc : CX w p (hp w p) U ow' kd' Fv' P' W B Y) : PLs (bGd b U ow' kd') p m w U B W Y := by
  obtain ⟨⟨p1, p4, p5⟩, ⟨p6, p7, p8⟩, ⟨p9, p10, p11⟩, p12, p13, p14⟩ := pl
  obtain ⟨-, x2, -, -, -, -, -, x8, x9, x10, -⟩ := xc
  exact ⟨⟨p1, bGd_i p4 x2, p5⟩, ⟨p6, p7, fun i hi => bGd_t (p8 i hi) (x9 i hi)⟩, ⟨p9, p10, fun i hi => bGd_t (p11 i hi) (x8 i hi)⟩, p12, p13, fun i hi => bGd_t (p14 i hi) (x10 i hi)⟩
/-- what goes together with a term that is good there is good here -/
theorem gd_t {t x : Int64} (hP : ∀ t, P t → P' t) (r : RTb (bGd b U ow' kd') t x) (g : GT U ow kd P t) : GT U ow' kd' P' x := by
  rcases r with ⟨r1, r2, -⟩ | ⟨r1, r2, ⟨-, v2⟩, -, r4, r5, r6⟩
  · rcases g with g | g
    · exact Or.inl ⟨by rw [r2]; exact r1, by rw [r2]; exact hP _ g.2⟩
    · exact absurd g.1 r1
  · exact Or.inr ⟨by unfold isH; rw [r2]; exact r1, v2, r4, r5, by rw [r6, r2]⟩
theorem CXf_of (hP : ∀ t, P t → P' t) (pl : PLs (bGd b U ow' kd') p m w U B W Y) (pt : PTQ m p U ow kd Fv P B W Y) (g : HP (hp w p) U ow' kd' Fv' P') (hp1 : p < 24) (bd : W ≤ 46000 ∧ B ≤ 2500 ∧ Y ≤ 30) : CXf w p (hp w p) U ow' kd' Fv' P' W B Y := by
  obtain ⟨⟨p1, p4, p5⟩, ⟨p6, p7, p8⟩, ⟨p9, p10, p11⟩, p12, p13, p14⟩ := pl
  exact ⟨rfl, g, p1.2.2, hp1, ⟨p10, bd.1⟩, ⟨p7, bd.2.1⟩, ⟨p13, bd.2.2⟩, fun i hi => gd_t hP (p11 i hi) (pt.2.2.1.2 i hi), fun i hi => gd_t hP (p8 i hi) (pt.2.1.2 i hi), fun i hi => gd_t hP (p14 i hi) (pt.2.2.2.1.2 i hi), trivial⟩
/-- no term is at hand -/
theorem CXf_cx (x : CXf w p (hp w p) U ow' kd' Fv' P' W B Y) (h : F w 140 = -1) : CX w p (hp w p) U ow' kd' Fv' P' W B Y := by
  obtain ⟨x1, x2, x3, x4, x5, x6, x7, x8, x9, x10, -⟩ := x
  exact ⟨x1, x2, x3, x4, x5, x6, x7, x8, x9, x10, fun e => by omega⟩
end
