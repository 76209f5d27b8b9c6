set_option maxRecDepth 100000
def Kk9c (u w : MS) : Prop := w.1 3 = u.1 3
def Kk9E {α : Type} (u : MS) (o : Option (MS × α)) : Prop := ∀ w r, o = some (w, r) → Kk9c u w
section
variable {α β : Type} {u0 u w : MS} {k : Nat}
theorem Kk9_none : Kk9E u0 (none : Option (MS × α)) := fun _ _ e => by cases e
theorem Kk9_some {r : α} (h : Kk9c u0 w) : Kk9E u0 (some (w, r)) := fun _ _ e => by injection e with e; injection e with e1 _; exact e1 ▸ h
theorem Kk9_br {b : Bool} {p q : Option (MS × α)} (h1 : Kk9E u0 p) (h2 : Kk9E u0 q) : Kk9E u0 (br b p q) := by cases b <;> assumption
theorem Kk9_ck {b : Bool} {p : Option (MS × α)} (h1 : Kk9E u0 p) : Kk9E u0 (ck b p) := by
  cases b
  · exact Kk9_none
  · exact h1
theorem Kk9_bo {o : Option β} {f : β → Option (MS × α)} (h : ∀ j, Kk9E u0 (f j)) : Kk9E u0 (bo o f) := by
  cases o with
  | none => exact Kk9_none
  | some j => exact h j
theorem Kk9_bnd {o : Option (MS × β)} {f : MS → β → Option (MS × α)} (h1 : Kk9E u0 o) (h2 : ∀ w r, Kk9c u0 w → Kk9E u0 (f w r)) : Kk9E u0 (bnd o f) := by
  cases o with
  | none => exact Kk9_none
  | some x => exact h2 x.1 x.2 (h1 x.1 x.2 rfl)
theorem Kk9_T {o : Option (MS × (β ⊕ Nat))} {f : MS → β → Option (MS × (α ⊕ Nat))} (h1 : Kk9E u0 o) (h2 : ∀ w r, Kk9c u0 w → Kk9E u0 (f w r)) : Kk9E u0 (bTm o f) := by
  cases o with
  | none => exact Kk9_none
  | some x =>
    obtain ⟨x, z⟩ := x
    cases z with
    | inl v => exact h2 x v (h1 x _ rfl)
    | inr k => exact Kk9_some (h1 x _ rfl)
theorem Kk9_H {o : Option (MS × (β ⊕ Nat))} {f : MS → β → Option (MS × α)} {g : MS → Option (MS × α)} (h1 : Kk9E u0 o) (h2 : ∀ w r, Kk9c u0 w → Kk9E u0 (f w r)) (h3 : ∀ w, Kk9c u0 w → Kk9E u0 (g w)) : Kk9E u0 (bHm o f g) := by
  cases o with
  | none => exact Kk9_none
  | some x =>
    obtain ⟨x, z⟩ := x
    cases z with
    | inl v => exact h2 x v (h1 x _ rfl)
    | inr k =>
      show Kk9E u0 (if k = 3 then g x else none)
      split
      · exact h3 x (h1 x _ rfl)
      · exact Kk9_none
theorem Kk9_ltm {x : MS} {f : MS → Option (MS × α)} (h1 : Kk9c u0 x) (h2 : ∀ w, Kk9c u0 w → Kk9E u0 (f w)) : Kk9E u0 (lt x f) := h2 x h1
theorem Kk9_ltv {x : β} {f : β → Option (MS × α)} (h2 : ∀ y, Kk9E u0 (f y)) : Kk9E u0 (lt x f) := h2 x
theorem Kk9_I {v : Int32} (h : Kk9c u0 u) (hk : k ≠ 3) : Kk9c u0 (upI u k v) := (upI_ne hk.symm).trans h
theorem Kk9_L {v : Int64} (h : Kk9c u0 u) : Kk9c u0 (upL u k v) := h
theorem Kk9_J {v : Nat → Int64} (h : Kk9c u0 u) : Kk9c u0 (upJ u k v) := h
theorem Kk9_A {v : Nat → Int32} (h : Kk9c u0 u) : Kk9c u0 (upA u k v) := h
theorem Kk9_rf : Kk9c u u := rfl
end
section
variable {u0 u : MS} {N : Nat}
theorem yk9_fb_M_newProcess_0 {G : Unit} (h : Kk9c u0 u)  : Kk9E u0 (fb_M_newProcess_0 N G u) := by
  unfold fb_M_newProcess_0
  repeat' (first | with_reducible assumption | with_reducible refine Kk9_br ?_ ?_ | with_reducible refine Kk9_bnd ?_ (fun _ _ _ => ?_) | with_reducible refine Kk9_ck ?_ | with_reducible refine Kk9_ltm ?_ (fun _ _ => ?_) | with_reducible refine Kk9_some ?_ | with_reducible refine Kk9_bo (fun _ => ?_) | with_reducible refine Kk9_T ?_ (fun _ _ _ => ?_) | with_reducible refine Kk9_H ?_ (fun _ _ _ => ?_) (fun _ _ => ?_) | with_reducible refine Kk9_ltv (fun _ => ?_) | with_reducible refine Kk9_I ?_ (by decide) | with_reducible refine Kk9_A ?_ | with_reducible refine Kk9_J ?_ | with_reducible refine Kk9_L ?_)
theorem yk9_fm_M_newProcess  (h : Kk9c u0 u)  : Kk9E u0 (fm_M_newProcess N u) := by
  unfold fm_M_newProcess
  exact yk9_fb_M_newProcess_0 h
end
