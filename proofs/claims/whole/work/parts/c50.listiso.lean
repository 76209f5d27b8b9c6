/-! a list is made: there from its first pair on, here from its last -/
set_option maxRecDepth 100000
section
variable {b : Int → Nat → Nat → Prop} {h h' h2 h2' : Nat → Int64} {n n' l : Nat} {tt xx : Nat → Int64} {te xe : Int64}
/-- the pairs of a new list -/
def bnL (n n' l : Nat) (k : Int) (a c : Nat) : Prop := k = 7 ∧ ∃ i, i < l ∧ a = n + 2 * i ∧ c = n' + 2 * (l - 1 - i)
theorem list_iso (s : ISb b h n h' n') (hl : 0 < l) (hm : n + 2 * l ≤ 1000 ∧ n' + 2 * l ≤ 1000) (hh : ∀ i, i < n → h2 i = h i) (hh' : ∀ i, i < n' → h2' i = h' i) (c1 : ∀ i, i < l → h2 (n + 2 * i) = tt i) (c2 : ∀ i, i + 1 < l → h2 (n + 2 * i + 1) = mk 7 ((n + 2 * (i + 1) : Nat) : Int)) (c3 : h2 (n + 2 * (l - 1) + 1) = te) (d1 : ∀ i, i < l → h2' (n' + 2 * (l - 1 - i)) = xx i) (d2 : ∀ i, i + 1 < l → h2' (n' + 2 * (l - 1 - i) + 1) = mk 7 ((n' + 2 * (l - 1 - (i + 1)) : Nat) : Int)) (d3 : h2' (n' + 1) = xe) (r1 : ∀ i, i < l → RTb b (tt i) (xx i)) (r2 : RTb b te xe) : ISb (fun k a c => b k a c ∨ bnL n n' l k a c) h2 (n + 2 * l) h2' (n' + 2 * l) ∧ RTb (fun k a c => b k a c ∨ bnL n n' l k a c) (mk 7 ((n : Nat) : Int)) (mk 7 ((n' + 2 * (l - 1) : Nat) : Int)) := by
  refine ⟨ISb_ext s (by omega) (by omega) hh hh' (fun k a c q => ?_) (fun k k2 a c a2 c2 q1 q2 => ?_) (fun t x z e1 e2 e3 q => ?_), RTb_mk (Or.inr (Or.inr rfl)) (by omega) (by omega) (Or.inr ⟨rfl, 0, hl, by omega, by omega⟩)⟩
  · obtain ⟨q0, i, q1, q2, q3⟩ := q
    exact ⟨Or.inr (Or.inr q0), by omega, by omega, by omega⟩
  · obtain ⟨-, i, x1, x2, x3⟩ := q1
    obtain ⟨-, j, y1, y2, y3⟩ := q2
    omega
  · obtain ⟨q0, i, q1, q2, q3⟩ := q
    have b1 : blk h2 t = 2 := by unfold blk; rw [if_pos q0]
    have b2 : blk h2' x = 2 := by unfold blk; rw [if_pos (e1.trans q0)]
    refine ⟨⟨by rw [b1, b2], by omega, by omega⟩, fun j j1 j2 => ?_, fun e => by omega⟩
    rw [b1] at j2
    rw [q2, q3]
    have ej : j = 0 ∨ j = 1 := by omega
    rcases ej with e | e
    · subst e
      rw [Nat.add_zero, Nat.add_zero, c1 i q1, d1 i q1]
      exact RTb_mo (fun _ _ _ => Or.inl) (r1 i q1)
    · subst e
      by_cases c : i + 1 < l
      · rw [c2 i c, d2 i c]
        exact RTb_mk (Or.inr (Or.inr rfl)) (by omega) (by omega) (Or.inr ⟨rfl, i + 1, c, rfl, rfl⟩)
      · have ei : i = l - 1 := by omega
        subst ei
        rw [c3, Nat.sub_self, Nat.mul_zero, Nat.add_zero, d3]
        exact RTb_mo (fun _ _ _ => Or.inl) r2
end
