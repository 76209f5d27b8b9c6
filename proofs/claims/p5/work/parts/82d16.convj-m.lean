section
set_option maxRecDepth 100000
def I2E {α : Type} (o2 o : Option (MS × α)) : Prop := ∀ w r, o2 = some (w, r) → o = some (w, r)
section
variable {α β : Type} {u : MS} {N : Nat}
theorem I2_rf {o : Option (MS × α)} : I2E o o := fun _ _ e => e
theorem I2_none {o : Option (MS × α)} : I2E none o := fun _ _ e => by cases e
theorem I2_br {b : Bool} {p q p2 q2 : Option (MS × α)} (h1 : I2E p2 p) (h2 : I2E q2 q) : I2E (br b p2 q2) (br b p q) := by cases b <;> assumption
theorem I2_ck {b : Bool} {p p2 : Option (MS × α)} (h1 : I2E p2 p) : I2E (ck b p2) (ck b p) := by
  cases b
  · exact I2_none
  · exact h1
theorem I2_bnd {o o2 : Option (MS × β)} {f f2 : MS → β → Option (MS × α)} (h1 : I2E o2 o) (h2 : ∀ w r, I2E (f2 w r) (f w r)) : I2E (bnd o2 f2) (bnd o f) := by
  cases o2 with
  | none => exact I2_none
  | some x =>
    intro w r e
    rw [h1 x.1 x.2 rfl]
    exact h2 x.1 x.2 w r e
theorem I2_lt {x : β} {f f2 : β → Option (MS × α)} (h2 : ∀ y, I2E (f2 y) (f y)) : I2E (lt x f2) (lt x f) := h2 x
end
section
variable {u : MS} {N : Nat}
end
end
