/-! a number with its sign changed -/
set_option maxRecDepth 100000
section
variable {α β : Type} {b : Int → Nat → Nat → Prop} {N p k l U B W Y j a n : Nat} {m w m2 w2 m3 w3 : MS} {t x : Int64} {nb : Nat → Nat} {Hs Os : Nat → List Nat} {y : Option (Nat × Nat × Nat)} {Q : MS → α → MS → β → Prop} {K1 : MS → Option (MS × α)} {K2 : MS → Option (MS × β)} {v : Int}
theorem neg_32 (v : Int32) : (-(v.toInt64)).toInt32 = -v := by simp
theorem neg_ti (v : Int32) : (-v).toInt = if v.toInt = -2147483648 then -2147483648 else - v.toInt := by
  have h := ti_rng v
  rw [Int32.toInt_neg]
  by_cases e : v.toInt = -2147483648
  · rw [if_pos e, e]
    decide
  · rw [if_neg e]
    exact Int.bmod_eq_of_le (by show -((4294967296 : Int) / 2) ≤ _; omega) (by show _ < ((4294967296 : Int) + 1) / 2; omega)
theorem neg_tl (v : Int32) : (-(v.toInt64)).toInt = - v.toInt := by
  have h := ti_rng v
  rw [Int64.toInt_neg, Int32.toInt_toInt64]
  exact Int.bmod_eq_of_le (by show -((18446744073709551616 : Int) / 2) ≤ _; omega) (by show _ < ((18446744073709551616 : Int) + 1) / 2; omega)
theorem neg_64 (v : Int32) : lg_cmp (-(v.toInt64)) (((-(v.toInt64)).toInt32).toInt64) = 0 ↔ ¬ (v = -v ∧ v ≠ 0) := by
  have h := ti_rng v
  have z0 : (0 : Int32).toInt = 0 := rfl
  rw [lgc_eq, neg_32, ← Int64.toInt_inj, neg_tl, Int32.toInt_toInt64, neg_ti, ← Int32.toInt_inj (x := v) (y := -v), neg_ti, Ne, ← Int32.toInt_inj (x := v) (y := 0), z0]
  by_cases e : v.toInt = -2147483648
  · rw [if_pos e, e]
    decide
  · rw [if_neg e]
    constructor
    · intro _ c
      omega
    · intro _
      rfl
end
