/-! the end of a part: on behind all of them -/
set_option maxRecDepth 100000
section
variable {a n t nd b1 : Nat} {C : Nat → Int} {R : Nat → Nat → Int} {J : Nat → Int64} {H O : List Nat} {y : Option (Nat × Nat × Nat)}
theorem cr_26 (hO : O.Nodup ∧ H.Nodup) (hb : a + 2 < 24000 ∧ n + 2 < 100000 ∧ H.length + O.length ≤ 40) (r23 : R 23 n = 26) (c0 : C a = 18) (c1 : C (a + 1) = ((t : Nat) : Int)) (r25 : R 25 n = -2) (r26 : R 26 n = ((nd : Nat) : Int)) (rnd : R 26 nd = ((b1 : Nat) : Int)) (h : CRe C R J y t b1 H O) : CRe C R J y a n H O := by
  obtain ⟨d, hd⟩ := h
  exact cr_1 hO hb ⟨d, Or.inr (Or.inr (Or.inr (Or.inr (Or.inr (Or.inr (Or.inr (Or.inr (Or.inr (Or.inr (Or.inr (Or.inr (Or.inr (Or.inr (Or.inr (Or.inr (Or.inr (Or.inr (Or.inr (Or.inr (Or.inr (Or.inr (Or.inr (Or.inr (Or.inr (Or.inl ⟨r23, c0, t, b1, c1, Or.inr ⟨r25, nd, r26, rnd⟩, hd⟩)))))))))))))))))))))))))⟩
end
