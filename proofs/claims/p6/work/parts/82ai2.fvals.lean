section
variable {w : MS} {UN FN : Nat}
def FvO (w : MS) (UN FN : Nat) (a b : Int64) : Prop := (∃ f : Nat, f < FN ∧ a = -1 - (I f).toInt64 ∧ va b = 0) ∨ ∃ x : Nat, x < UN ∧ a = (I x).toInt64 ∧ va b = A w 54 x
theorem i64_n {x : Nat} (h : x < 100000) : ((I x).toInt64).toInt = x := by
  rw [Int32.toInt_toInt64, I_ti (by omega) (by omega)]
theorem i64_m {x : Nat} (h : x < 100000) : ((-1 : Int64) - (I x).toInt64).toInt = -1 - x := by
  rw [Int64.toInt_sub, i64_n h, show ((-1 : Int64)).toInt = -1 from rfl]
  exact Int.bmod_eq_of_le (by omega) (by omega)
theorem FvO_H (h1 : UN ≤ 1400) (h2 : FN ≤ 1000) : FVH (FvO w UN FN) := by
  refine ⟨fun a b h => ?_, fun a b c hb hc => ?_⟩
  · rcases h with ⟨f, q1, q2, -⟩ | ⟨x, q1, q2, -⟩
    · rw [q2, i64_m (by omega)]; omega
    · rw [q2, i64_n (by omega)]; omega
  · rcases hb with ⟨f, q1, q2, q3⟩ | ⟨x, q1, q2, q3⟩
    · rcases hc with ⟨f', r1, r2, r3⟩ | ⟨x', r1, r2, r3⟩
      · rw [q3, r3]
      · have := congrArg Int64.toInt (q2.symm.trans r2)
        rw [i64_m (by omega), i64_n (by omega)] at this
        omega
    · rcases hc with ⟨f', r1, r2, r3⟩ | ⟨x', r1, r2, r3⟩
      · have := congrArg Int64.toInt (q2.symm.trans r2)
        rw [i64_m (by omega), i64_n (by omega)] at this
        omega
      · have := congrArg Int64.toInt (q2.symm.trans r2)
        rw [i64_n (by omega), i64_n (by omega)] at this
        obtain rfl : x = x' := by omega
        rw [q3, r3]
theorem FvO_W : FVW (FvO w UN FN) w UN FN := ⟨fun f hf b hb => Or.inl ⟨f, hf, rfl, hb⟩, fun x hx b hb => Or.inr ⟨x, hx, rfl, hb⟩, fun a b h => h⟩
end
