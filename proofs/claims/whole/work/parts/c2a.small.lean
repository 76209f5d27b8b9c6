/-! small things: rows behind a write -/
set_option maxRecDepth 100000
section
variable {u : MS} {k i j k2 : Nat} {x : Int} {t : Int64}
theorem wa_ro (h1 : -2147483648 ≤ x) (h2 : x < 2147483648) : A (wa u k i x) k j = if j = i then x else A u k j := by rw [A_wa h1 h2, if_pos rfl]
theorem wa_sm (h1 : -2147483648 ≤ x) (h2 : x < 2147483648) : A (wa u k i x) k i = x := by rw [A_wa h1 h2, if_pos rfl, if_pos rfl]
theorem wi_1 (h : j ≠ k) : (wi u k x).1 j = u.1 j := if_neg h
theorem wi_sm (h1 : -2147483648 ≤ x) (h2 : x < 2147483648) : F (wi u k x) k = x := by rw [F_wi h1 h2, if_pos rfl]
theorem wa_21 (h : k2 ≠ k) : (wa u k i x).2.2.1 k2 = u.2.2.1 k2 := if_neg h
theorem wj_22 (h : k2 ≠ k) : (wj u k i t).2.2.2 k2 = u.2.2.2 k2 := if_neg h
theorem wi_s1 : (wi u k x).1 k = I x := if_pos rfl
theorem wa_s1 : (wa u k i x).2.2.1 k i = I x := by
  unfold wa upA upd
  simp
theorem wl_21 (h : k2 ≠ k) : (wl u k t).2.1 k2 = u.2.1 k2 := if_neg h
end
