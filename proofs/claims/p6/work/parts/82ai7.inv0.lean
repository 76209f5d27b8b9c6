theorem mS0_F {k : Nat} (h : k ≠ 140) : F mS0 k = 0 := by
  show (if k = 140 then (-1 : Int32) else 0).toInt = 0
  rw [if_neg h]; rfl
theorem mS0_A {k i : Nat} (h : k ≠ 0 ∧ k ≠ 1 ∧ k ≠ 2 ∧ k ≠ 21 ∧ k ≠ 22) : A mS0 k i = 0 := by
  show ((if k = 0 then tk tb_0 77 else if k = 1 then tk tb_1 161 else if k = 2 then tk tb_2 218 else if k = 21 then tk tb_21 21 else if k = 22 then tk tb_22 36 else fun _ => 0) i).toInt = 0
  rw [if_neg h.1, if_neg h.2.1, if_neg h.2.2.1, if_neg h.2.2.2.1, if_neg h.2.2.2.2]; rfl
theorem t0_1 : ∀ i, i < 161 → A mS0 1 i = ((faT i : Nat) : Int) := by decide +kernel
theorem t0_0 : ∀ k, k < 15 → A mS0 0 (wst k) = ((wln k : Nat) : Int) := by decide +kernel
theorem t0_22 : ∀ k, k < 18 → A mS0 22 (2 * k + 1) ≠ 10 := by decide +kernel
theorem t0_21 : ∀ k, k < 7 → A mS0 21 (3 * k + 1) ≠ -1 := by decide +kernel
theorem t0_2 : ∀ k, k < 30 → A mS0 2 (pst k) = ((npre k : Nat) : Int) ∧ A mS0 2 (pst k + 1) = ((plen k : Nat) : Int) := by decide +kernel
theorem inv_0 : INV mS0 := by
  have z : ∀ k i, k ≠ 0 ∧ k ≠ 1 ∧ k ≠ 2 ∧ k ≠ 21 ∧ k ≠ 22 → A mS0 k i = 0 := fun k i h => mS0_A h
  have f : ∀ k, k ≠ 140 → F mS0 k = 0 := fun k h => mS0_F h
  refine ⟨by rw [f 5 (by decide)]; decide, ⟨fun i => by rw [z 4 i (by decide)]; decide, ⟨t0_1, t0_0, ⟨t0_22, t0_21⟩, t0_2⟩, ⟨z 13 0 (by decide), z 16 0 (by decide), z 19 0 (by decide)⟩, fun i => by rw [z 44 i (by decide)]; decide, fun i => by rw [z 49 i (by decide)]; decide⟩, by rw [f 130 (by decide)]; decide, ⟨rfl, by rw [z 89 24 (by decide)]; decide, fun i => by rw [z 127 i (by decide)]; decide, fun i => by rw [z 97 i (by decide)]; decide, fun i => by rw [z 132 i (by decide)]; decide⟩, fun _ _ => True, 0, fun _ _ => 0, fun _ _ => 0, 0, 0, 0, 0, 0, 0, fun y => absurd (f 86 (by decide)) y, fun y => absurd (f 87 (by decide)) y⟩
