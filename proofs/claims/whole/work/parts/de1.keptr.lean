/-! the class: what only looks -/
set_option maxRecDepth 100000
def Kr1c (u w : MS) : Prop := w = u
def Kr1E {α : Type} (u : MS) (o : Option (MS × α)) : Prop := ∀ w r, o = some (w, r) → Kr1c u w
section
variable {α β : Type} {u0 u w : MS} {k : Nat}
theorem Kr1_none : Kr1E u0 (none : Option (MS × α)) := fun _ _ e => by cases e
theorem Kr1_some {r : α} (h : Kr1c u0 w) : Kr1E u0 (some (w, r)) := fun _ _ e => by injection e with e; injection e with e1 _; exact e1 ▸ h
theorem Kr1_br {b : Bool} {p q : Option (MS × α)} (h1 : Kr1E u0 p) (h2 : Kr1E u0 q) : Kr1E u0 (br b p q) := by cases b <;> assumption
theorem Kr1_ck {b : Bool} {p : Option (MS × α)} (h1 : Kr1E u0 p) : Kr1E u0 (ck b p) := by
  cases b
  · exact Kr1_none
  · exact h1
theorem Kr1_bo {o : Option β} {f : β → Option (MS × α)} (h : ∀ j, Kr1E u0 (f j)) : Kr1E u0 (bo o f) := by
  cases o with
  | none => exact Kr1_none
  | some j => exact h j
theorem Kr1_bnd {o : Option (MS × β)} {f : MS → β → Option (MS × α)} (h1 : Kr1E u0 o) (h2 : ∀ w r, Kr1c u0 w → Kr1E u0 (f w r)) : Kr1E u0 (bnd o f) := by
  cases o with
  | none => exact Kr1_none
  | some x => exact h2 x.1 x.2 (h1 x.1 x.2 rfl)
theorem Kr1_T {o : Option (MS × (β ⊕ Nat))} {f : MS → β → Option (MS × (α ⊕ Nat))} (h1 : Kr1E u0 o) (h2 : ∀ w r, Kr1c u0 w → Kr1E u0 (f w r)) : Kr1E u0 (bTm o f) := by
  cases o with
  | none => exact Kr1_none
  | some x =>
    obtain ⟨x, z⟩ := x
    cases z with
    | inl v => exact h2 x v (h1 x _ rfl)
    | inr k => exact Kr1_some (h1 x _ rfl)
theorem Kr1_H {o : Option (MS × (β ⊕ Nat))} {f : MS → β → Option (MS × α)} {g : MS → Option (MS × α)} (h1 : Kr1E u0 o) (h2 : ∀ w r, Kr1c u0 w → Kr1E u0 (f w r)) (h3 : ∀ w, Kr1c u0 w → Kr1E u0 (g w)) : Kr1E u0 (bHm o f g) := by
  cases o with
  | none => exact Kr1_none
  | some x =>
    obtain ⟨x, z⟩ := x
    cases z with
    | inl v => exact h2 x v (h1 x _ rfl)
    | inr k =>
      show Kr1E u0 (if k = 3 then g x else none)
      split
      · exact h3 x (h1 x _ rfl)
      · exact Kr1_none
theorem Kr1_ltm {x : MS} {f : MS → Option (MS × α)} (h1 : Kr1c u0 x) (h2 : ∀ w, Kr1c u0 w → Kr1E u0 (f w)) : Kr1E u0 (lt x f) := h2 x h1
theorem Kr1_ltv {x : β} {f : β → Option (MS × α)} (h2 : ∀ y, Kr1E u0 (f y)) : Kr1E u0 (lt x f) := h2 x
theorem Kr1_I {v : Int32} (h : Kr1c u0 u) (hk : False) : Kr1c u0 (upI u k v) := hk.elim
theorem Kr1_L {v : Int64} (h : False) : Kr1c u0 (upL u k v) := h.elim
theorem Kr1_J {v : Nat → Int64} (h : False) : Kr1c u0 (upJ u k v) := h.elim
theorem Kr1_A {v : Nat → Int32} (h : Kr1c u0 u) (hk : False) : Kr1c u0 (upA u k v) := hk.elim
theorem Kr1_rf : Kr1c u u := rfl
end
section
variable {u0 u : MS} {N : Nat}
theorem yr1_hb_H_count_108 {G : Unit} {t0 : Int32} (h : Kr1c u0 u)  : Kr1E u0 (hb_H_count_108 N G u t0) := by
  unfold hb_H_count_108
  repeat' (first | with_reducible assumption | with_reducible refine Kr1_br ?_ ?_ | with_reducible refine Kr1_bnd ?_ (fun _ _ _ => ?_) | with_reducible refine Kr1_ck ?_ | with_reducible refine Kr1_ltm ?_ (fun _ _ => ?_) | with_reducible refine Kr1_some ?_ | with_reducible refine Kr1_bo (fun _ => ?_) | with_reducible refine Kr1_T ?_ (fun _ _ _ => ?_) | with_reducible refine Kr1_H ?_ (fun _ _ _ => ?_) (fun _ _ => ?_) | with_reducible refine Kr1_ltv (fun _ => ?_) | with_reducible refine Kr1_I ?_ (by decide) | with_reducible refine Kr1_A ?_ (by decide) | with_reducible refine Kr1_J ?_ | with_reducible refine Kr1_L ?_)
theorem yr1_hb_H_count_89 {G : Unit} {t0 : Int32} (h : Kr1c u0 u)  : Kr1E u0 (hb_H_count_89 N G u t0) := by
  unfold hb_H_count_89
  repeat' (first | with_reducible assumption | with_reducible refine Kr1_br ?_ ?_ | with_reducible refine Kr1_bnd ?_ (fun _ _ _ => ?_) | with_reducible refine Kr1_ck ?_ | with_reducible refine Kr1_ltm ?_ (fun _ _ => ?_) | with_reducible refine Kr1_some ?_ | with_reducible refine Kr1_bo (fun _ => ?_) | with_reducible refine Kr1_T ?_ (fun _ _ _ => ?_) | with_reducible refine Kr1_H ?_ (fun _ _ _ => ?_) (fun _ _ => ?_) | with_reducible refine Kr1_ltv (fun _ => ?_) | with_reducible refine Kr1_I ?_ (by decide) | with_reducible refine Kr1_A ?_ (by decide) | with_reducible refine Kr1_J ?_ | with_reducible refine Kr1_L ?_)
theorem yr1_hb_H_count_70 {G : Unit} {t0 : Int32} (h : Kr1c u0 u)  : Kr1E u0 (hb_H_count_70 N G u t0) := by
  unfold hb_H_count_70
  repeat' (first | with_reducible assumption | with_reducible refine Kr1_br ?_ ?_ | with_reducible refine Kr1_bnd ?_ (fun _ _ _ => ?_) | with_reducible refine Kr1_ck ?_ | with_reducible refine Kr1_ltm ?_ (fun _ _ => ?_) | with_reducible refine Kr1_some ?_ | with_reducible refine Kr1_bo (fun _ => ?_) | with_reducible refine Kr1_T ?_ (fun _ _ _ => ?_) | with_reducible refine Kr1_H ?_ (fun _ _ _ => ?_) (fun _ _ => ?_) | with_reducible refine Kr1_ltv (fun _ => ?_) | with_reducible refine Kr1_I ?_ (by decide) | with_reducible refine Kr1_A ?_ (by decide) | with_reducible refine Kr1_J ?_ | with_reducible refine Kr1_L ?_)
theorem yr1_hb_H_count_0 {G : Unit} {v1 : Int32} (h : Kr1c u0 u)  : Kr1E u0 (hb_H_count_0 N G u v1) := by
  unfold hb_H_count_0
  repeat' (first | with_reducible assumption | with_reducible refine Kr1_br ?_ ?_ | with_reducible refine Kr1_bnd ?_ (fun _ _ _ => ?_) | with_reducible refine Kr1_ck ?_ | with_reducible refine Kr1_ltm ?_ (fun _ _ => ?_) | with_reducible refine Kr1_some ?_ | with_reducible refine Kr1_bo (fun _ => ?_) | with_reducible refine Kr1_T ?_ (fun _ _ _ => ?_) | with_reducible refine Kr1_H ?_ (fun _ _ _ => ?_) (fun _ _ => ?_) | with_reducible exact yr1_hb_H_count_108 (by assumption) | with_reducible exact yr1_hb_H_count_70 (by assumption) | with_reducible exact yr1_hb_H_count_89 (by assumption) | with_reducible refine Kr1_ltv (fun _ => ?_) | with_reducible refine Kr1_I ?_ (by decide) | with_reducible refine Kr1_A ?_ (by decide) | with_reducible refine Kr1_J ?_ | with_reducible refine Kr1_L ?_)
theorem yr1_hm_H_count {v1 : Int32} (h : Kr1c u0 u)  : Kr1E u0 (hm_H_count N u v1) := by
  unfold hm_H_count
  exact yr1_hb_H_count_0 h
theorem yr1_hb_H_isFunction_27 {G : Unit} {t0 : Int32} (h : Kr1c u0 u)  : Kr1E u0 (hb_H_isFunction_27 N G u t0) := by
  unfold hb_H_isFunction_27
  repeat' (first | with_reducible assumption | with_reducible refine Kr1_br ?_ ?_ | with_reducible refine Kr1_bnd ?_ (fun _ _ _ => ?_) | with_reducible refine Kr1_ck ?_ | with_reducible refine Kr1_ltm ?_ (fun _ _ => ?_) | with_reducible refine Kr1_some ?_ | with_reducible refine Kr1_bo (fun _ => ?_) | with_reducible refine Kr1_T ?_ (fun _ _ _ => ?_) | with_reducible refine Kr1_H ?_ (fun _ _ _ => ?_) (fun _ _ => ?_) | with_reducible refine Kr1_ltv (fun _ => ?_) | with_reducible refine Kr1_I ?_ (by decide) | with_reducible refine Kr1_A ?_ (by decide) | with_reducible refine Kr1_J ?_ | with_reducible refine Kr1_L ?_)
theorem yr1_hb_H_isFunction_26 {G : Unit} (h : Kr1c u0 u)  : Kr1E u0 (hb_H_isFunction_26 N G u) := by
  unfold hb_H_isFunction_26
  repeat' (first | with_reducible assumption | with_reducible refine Kr1_br ?_ ?_ | with_reducible refine Kr1_bnd ?_ (fun _ _ _ => ?_) | with_reducible refine Kr1_ck ?_ | with_reducible refine Kr1_ltm ?_ (fun _ _ => ?_) | with_reducible refine Kr1_some ?_ | with_reducible refine Kr1_bo (fun _ => ?_) | with_reducible refine Kr1_T ?_ (fun _ _ _ => ?_) | with_reducible refine Kr1_H ?_ (fun _ _ _ => ?_) (fun _ _ => ?_) | with_reducible exact yr1_hb_H_isFunction_27 (by assumption) | with_reducible refine Kr1_ltv (fun _ => ?_) | with_reducible refine Kr1_I ?_ (by decide) | with_reducible refine Kr1_A ?_ (by decide) | with_reducible refine Kr1_J ?_ | with_reducible refine Kr1_L ?_)
theorem yr1_hb_H_isFunction_0 {G : Unit} {v1 : Int32} (h : Kr1c u0 u)  : Kr1E u0 (hb_H_isFunction_0 N G u v1) := by
  unfold hb_H_isFunction_0
  repeat' (first | with_reducible assumption | with_reducible refine Kr1_br ?_ ?_ | with_reducible refine Kr1_bnd ?_ (fun _ _ _ => ?_) | with_reducible refine Kr1_ck ?_ | with_reducible refine Kr1_ltm ?_ (fun _ _ => ?_) | with_reducible refine Kr1_some ?_ | with_reducible refine Kr1_bo (fun _ => ?_) | with_reducible refine Kr1_T ?_ (fun _ _ _ => ?_) | with_reducible refine Kr1_H ?_ (fun _ _ _ => ?_) (fun _ _ => ?_) | with_reducible exact yr1_hb_H_isFunction_26 (by assumption) | with_reducible exact yr1_hb_H_isFunction_27 (by assumption) | with_reducible refine Kr1_ltv (fun _ => ?_) | with_reducible refine Kr1_I ?_ (by decide) | with_reducible refine Kr1_A ?_ (by decide) | with_reducible refine Kr1_J ?_ | with_reducible refine Kr1_L ?_)
theorem yr1_hm_H_isFunction {v1 : Int32} (h : Kr1c u0 u)  : Kr1E u0 (hm_H_isFunction N u v1) := by
  unfold hm_H_isFunction
  exact yr1_hb_H_isFunction_0 h
theorem yr1_hb_H_function_0 {G : Unit} {v1 : Int32} {v2 : Int32} (h : Kr1c u0 u)  : Kr1E u0 (hb_H_function_0 N G u v1 v2) := by
  unfold hb_H_function_0
  repeat' (first | with_reducible assumption | with_reducible refine Kr1_br ?_ ?_ | with_reducible refine Kr1_bnd ?_ (fun _ _ _ => ?_) | with_reducible refine Kr1_ck ?_ | with_reducible refine Kr1_ltm ?_ (fun _ _ => ?_) | with_reducible refine Kr1_some ?_ | with_reducible refine Kr1_bo (fun _ => ?_) | with_reducible refine Kr1_T ?_ (fun _ _ _ => ?_) | with_reducible refine Kr1_H ?_ (fun _ _ _ => ?_) (fun _ _ => ?_) | with_reducible exact yr1_hm_H_isFunction (by assumption) | with_reducible refine Kr1_ltv (fun _ => ?_) | with_reducible refine Kr1_I ?_ (by decide) | with_reducible refine Kr1_A ?_ (by decide) | with_reducible refine Kr1_J ?_ | with_reducible refine Kr1_L ?_)
theorem yr1_hm_H_function {v1 : Int32} {v2 : Int32} (h : Kr1c u0 u)  : Kr1E u0 (hm_H_function N u v1 v2) := by
  unfold hm_H_function
  exact yr1_hb_H_function_0 h
theorem yr1_hb_Wo_sign_35 {G : Unit} (h : Kr1c u0 u)  : Kr1E u0 (hb_Wo_sign_35 N G u) := by
  unfold hb_Wo_sign_35
  repeat' (first | with_reducible assumption | with_reducible refine Kr1_br ?_ ?_ | with_reducible refine Kr1_bnd ?_ (fun _ _ _ => ?_) | with_reducible refine Kr1_ck ?_ | with_reducible refine Kr1_ltm ?_ (fun _ _ => ?_) | with_reducible refine Kr1_some ?_ | with_reducible refine Kr1_bo (fun _ => ?_) | with_reducible refine Kr1_T ?_ (fun _ _ _ => ?_) | with_reducible refine Kr1_H ?_ (fun _ _ _ => ?_) (fun _ _ => ?_) | with_reducible refine Kr1_ltv (fun _ => ?_) | with_reducible refine Kr1_I ?_ (by decide) | with_reducible refine Kr1_A ?_ (by decide) | with_reducible refine Kr1_J ?_ | with_reducible refine Kr1_L ?_)
theorem yr1_hb_Wo_sign_0 {G : Unit} {v0 : Nat} {v1 : Int32} {v2 : Int32} (h : Kr1c u0 u)  : Kr1E u0 (hb_Wo_sign_0 N G u v0 v1 v2) := by
  unfold hb_Wo_sign_0
  repeat' (first | with_reducible assumption | with_reducible refine Kr1_br ?_ ?_ | with_reducible refine Kr1_bnd ?_ (fun _ _ _ => ?_) | with_reducible refine Kr1_ck ?_ | with_reducible refine Kr1_ltm ?_ (fun _ _ => ?_) | with_reducible refine Kr1_some ?_ | with_reducible refine Kr1_bo (fun _ => ?_) | with_reducible refine Kr1_T ?_ (fun _ _ _ => ?_) | with_reducible refine Kr1_H ?_ (fun _ _ _ => ?_) (fun _ _ => ?_) | with_reducible exact yr1_hb_Wo_sign_35 (by assumption) | with_reducible refine Kr1_ltv (fun _ => ?_) | with_reducible refine Kr1_I ?_ (by decide) | with_reducible refine Kr1_A ?_ (by decide) | with_reducible refine Kr1_J ?_ | with_reducible refine Kr1_L ?_)
theorem yr1_hm_Wo_sign {v0 : Nat} {v1 : Int32} {v2 : Int32} (h : Kr1c u0 u)  : Kr1E u0 (hm_Wo_sign N u v0 v1 v2) := by
  unfold hm_Wo_sign
  exact yr1_hb_Wo_sign_0 h
theorem yr1_hb_H_letter_0 {G : Unit} {v1 : Int32} {v2 : Int32} (h : Kr1c u0 u)  : Kr1E u0 (hb_H_letter_0 N G u v1 v2) := by
  unfold hb_H_letter_0
  repeat' (first | with_reducible assumption | with_reducible refine Kr1_br ?_ ?_ | with_reducible refine Kr1_bnd ?_ (fun _ _ _ => ?_) | with_reducible refine Kr1_ck ?_ | with_reducible refine Kr1_ltm ?_ (fun _ _ => ?_) | with_reducible refine Kr1_some ?_ | with_reducible refine Kr1_bo (fun _ => ?_) | with_reducible refine Kr1_T ?_ (fun _ _ _ => ?_) | with_reducible refine Kr1_H ?_ (fun _ _ _ => ?_) (fun _ _ => ?_) | with_reducible exact yr1_hm_Wo_sign (by assumption) | with_reducible refine Kr1_ltv (fun _ => ?_) | with_reducible refine Kr1_I ?_ (by decide) | with_reducible refine Kr1_A ?_ (by decide) | with_reducible refine Kr1_J ?_ | with_reducible refine Kr1_L ?_)
theorem yr1_hm_H_letter {v1 : Int32} {v2 : Int32} (h : Kr1c u0 u)  : Kr1E u0 (hm_H_letter N u v1 v2) := by
  unfold hm_H_letter
  exact yr1_hb_H_letter_0 h
theorem yr1_hb_Wl_isReady_40 {G : Unit} {t0 : Int32} (h : Kr1c u0 u)  : Kr1E u0 (hb_Wl_isReady_40 N G u t0) := by
  unfold hb_Wl_isReady_40
  repeat' (first | with_reducible assumption | with_reducible refine Kr1_br ?_ ?_ | with_reducible refine Kr1_bnd ?_ (fun _ _ _ => ?_) | with_reducible refine Kr1_ck ?_ | with_reducible refine Kr1_ltm ?_ (fun _ _ => ?_) | with_reducible refine Kr1_some ?_ | with_reducible refine Kr1_bo (fun _ => ?_) | with_reducible refine Kr1_T ?_ (fun _ _ _ => ?_) | with_reducible refine Kr1_H ?_ (fun _ _ _ => ?_) (fun _ _ => ?_) | with_reducible refine Kr1_ltv (fun _ => ?_) | with_reducible refine Kr1_I ?_ (by decide) | with_reducible refine Kr1_A ?_ (by decide) | with_reducible refine Kr1_J ?_ | with_reducible refine Kr1_L ?_)
theorem yr1_hb_Wl_isReady_39 {G : Unit} (h : Kr1c u0 u)  : Kr1E u0 (hb_Wl_isReady_39 N G u) := by
  unfold hb_Wl_isReady_39
  repeat' (first | with_reducible assumption | with_reducible refine Kr1_br ?_ ?_ | with_reducible refine Kr1_bnd ?_ (fun _ _ _ => ?_) | with_reducible refine Kr1_ck ?_ | with_reducible refine Kr1_ltm ?_ (fun _ _ => ?_) | with_reducible refine Kr1_some ?_ | with_reducible refine Kr1_bo (fun _ => ?_) | with_reducible refine Kr1_T ?_ (fun _ _ _ => ?_) | with_reducible refine Kr1_H ?_ (fun _ _ _ => ?_) (fun _ _ => ?_) | with_reducible exact yr1_hb_Wl_isReady_40 (by assumption) | with_reducible refine Kr1_ltv (fun _ => ?_) | with_reducible refine Kr1_I ?_ (by decide) | with_reducible refine Kr1_A ?_ (by decide) | with_reducible refine Kr1_J ?_ | with_reducible refine Kr1_L ?_)
theorem yr1_hb_Wl_isReady_35 {G : Unit} (h : Kr1c u0 u)  : Kr1E u0 (hb_Wl_isReady_35 N G u) := by
  unfold hb_Wl_isReady_35
  repeat' (first | with_reducible assumption | with_reducible refine Kr1_br ?_ ?_ | with_reducible refine Kr1_bnd ?_ (fun _ _ _ => ?_) | with_reducible refine Kr1_ck ?_ | with_reducible refine Kr1_ltm ?_ (fun _ _ => ?_) | with_reducible refine Kr1_some ?_ | with_reducible refine Kr1_bo (fun _ => ?_) | with_reducible refine Kr1_T ?_ (fun _ _ _ => ?_) | with_reducible refine Kr1_H ?_ (fun _ _ _ => ?_) (fun _ _ => ?_) | with_reducible exact yr1_hb_Wl_isReady_40 (by assumption) | with_reducible refine Kr1_ltv (fun _ => ?_) | with_reducible refine Kr1_I ?_ (by decide) | with_reducible refine Kr1_A ?_ (by decide) | with_reducible refine Kr1_J ?_ | with_reducible refine Kr1_L ?_)
theorem yr1_hb_Wl_isReady_0 {G : Unit} {v1 : Nat} (h : Kr1c u0 u)  : Kr1E u0 (hb_Wl_isReady_0 N G u v1) := by
  unfold hb_Wl_isReady_0
  repeat' (first | with_reducible assumption | with_reducible refine Kr1_br ?_ ?_ | with_reducible refine Kr1_bnd ?_ (fun _ _ _ => ?_) | with_reducible refine Kr1_ck ?_ | with_reducible refine Kr1_ltm ?_ (fun _ _ => ?_) | with_reducible refine Kr1_some ?_ | with_reducible refine Kr1_bo (fun _ => ?_) | with_reducible refine Kr1_T ?_ (fun _ _ _ => ?_) | with_reducible refine Kr1_H ?_ (fun _ _ _ => ?_) (fun _ _ => ?_) | with_reducible exact yr1_hb_Wl_isReady_35 (by assumption) | with_reducible exact yr1_hb_Wl_isReady_39 (by assumption) | with_reducible refine Kr1_ltv (fun _ => ?_) | with_reducible refine Kr1_I ?_ (by decide) | with_reducible refine Kr1_A ?_ (by decide) | with_reducible refine Kr1_J ?_ | with_reducible refine Kr1_L ?_)
theorem yr1_hm_Wl_isReady {v1 : Nat} (h : Kr1c u0 u)  : Kr1E u0 (hm_Wl_isReady N u v1) := by
  unfold hm_Wl_isReady
  exact yr1_hb_Wl_isReady_0 h
theorem yr1_hb_Fr_of_26 {G : Unit} {t0 : Int32} (h : Kr1c u0 u)  : Kr1E u0 (hb_Fr_of_26 N G u t0) := by
  unfold hb_Fr_of_26
  repeat' (first | with_reducible assumption | with_reducible refine Kr1_br ?_ ?_ | with_reducible refine Kr1_bnd ?_ (fun _ _ _ => ?_) | with_reducible refine Kr1_ck ?_ | with_reducible refine Kr1_ltm ?_ (fun _ _ => ?_) | with_reducible refine Kr1_some ?_ | with_reducible refine Kr1_bo (fun _ => ?_) | with_reducible refine Kr1_T ?_ (fun _ _ _ => ?_) | with_reducible refine Kr1_H ?_ (fun _ _ _ => ?_) (fun _ _ => ?_) | with_reducible refine Kr1_ltv (fun _ => ?_) | with_reducible refine Kr1_I ?_ (by decide) | with_reducible refine Kr1_A ?_ (by decide) | with_reducible refine Kr1_J ?_ | with_reducible refine Kr1_L ?_)
theorem yr1_hb_Fr_of_12 {G : Unit} (h : Kr1c u0 u)  : Kr1E u0 (hb_Fr_of_12 N G u) := by
  unfold hb_Fr_of_12
  repeat' (first | with_reducible assumption | with_reducible refine Kr1_br ?_ ?_ | with_reducible refine Kr1_bnd ?_ (fun _ _ _ => ?_) | with_reducible refine Kr1_ck ?_ | with_reducible refine Kr1_ltm ?_ (fun _ _ => ?_) | with_reducible refine Kr1_some ?_ | with_reducible refine Kr1_bo (fun _ => ?_) | with_reducible refine Kr1_T ?_ (fun _ _ _ => ?_) | with_reducible refine Kr1_H ?_ (fun _ _ _ => ?_) (fun _ _ => ?_) | with_reducible exact yr1_hb_Fr_of_26 (by assumption) | with_reducible refine Kr1_ltv (fun _ => ?_) | with_reducible refine Kr1_I ?_ (by decide) | with_reducible refine Kr1_A ?_ (by decide) | with_reducible refine Kr1_J ?_ | with_reducible refine Kr1_L ?_)
theorem yr1_hb_Fr_of_0 {G : Unit} {v0 : Nat} {v1 : Int32} {v2 : Int32} (h : Kr1c u0 u)  : Kr1E u0 (hb_Fr_of_0 N G u v0 v1 v2) := by
  unfold hb_Fr_of_0
  repeat' (first | with_reducible assumption | with_reducible refine Kr1_br ?_ ?_ | with_reducible refine Kr1_bnd ?_ (fun _ _ _ => ?_) | with_reducible refine Kr1_ck ?_ | with_reducible refine Kr1_ltm ?_ (fun _ _ => ?_) | with_reducible refine Kr1_some ?_ | with_reducible refine Kr1_bo (fun _ => ?_) | with_reducible refine Kr1_T ?_ (fun _ _ _ => ?_) | with_reducible refine Kr1_H ?_ (fun _ _ _ => ?_) (fun _ _ => ?_) | with_reducible exact yr1_hb_Fr_of_12 (by assumption) | with_reducible exact yr1_hb_Fr_of_26 (by assumption) | with_reducible refine Kr1_ltv (fun _ => ?_) | with_reducible refine Kr1_I ?_ (by decide) | with_reducible refine Kr1_A ?_ (by decide) | with_reducible refine Kr1_J ?_ | with_reducible refine Kr1_L ?_)
theorem yr1_hm_Fr_of {v0 : Nat} {v1 : Int32} {v2 : Int32} (h : Kr1c u0 u)  : Kr1E u0 (hm_Fr_of N u v0 v1 v2) := by
  unfold hm_Fr_of
  exact yr1_hb_Fr_of_0 h
theorem yr1_hb_Wl_watchesOf_28 {G : (MS → Int32 → Int32 → Int32 → Option (MS × Int32))} {v1 : Int32} {v3 : Int32} {t0 : Int32} {t1 : Int32} (h : Kr1c u0 u) (hG0 : ∀ (u : MS) a0 a1 a2, Kr1c u0 u → Kr1E u0 (G u a0 a1 a2)) : Kr1E u0 (hb_Wl_watchesOf_28 N G u v1 v3 t0 t1) := by
  unfold hb_Wl_watchesOf_28
  repeat' (first | with_reducible assumption | with_reducible refine Kr1_br ?_ ?_ | with_reducible refine Kr1_bnd ?_ (fun _ _ _ => ?_) | with_reducible refine Kr1_ck ?_ | with_reducible refine Kr1_ltm ?_ (fun _ _ => ?_) | with_reducible refine Kr1_some ?_ | with_reducible refine Kr1_bo (fun _ => ?_) | with_reducible refine Kr1_T ?_ (fun _ _ _ => ?_) | with_reducible refine Kr1_H ?_ (fun _ _ _ => ?_) (fun _ _ => ?_) | with_reducible exact hG0 _ _ _ _ (by assumption) | with_reducible refine Kr1_ltv (fun _ => ?_) | with_reducible refine Kr1_I ?_ (by decide) | with_reducible refine Kr1_A ?_ (by decide) | with_reducible refine Kr1_J ?_ | with_reducible refine Kr1_L ?_)
theorem yr1_hb_Wl_watchesOf_4 {G : (MS → Int32 → Int32 → Int32 → Option (MS × Int32))} {v1 : Int32} {v2 : Int32} {v3 : Int32} (h : Kr1c u0 u) (hG0 : ∀ (u : MS) a0 a1 a2, Kr1c u0 u → Kr1E u0 (G u a0 a1 a2)) : Kr1E u0 (hb_Wl_watchesOf_4 N G u v1 v2 v3) := by
  unfold hb_Wl_watchesOf_4
  repeat' (first | with_reducible assumption | with_reducible refine Kr1_br ?_ ?_ | with_reducible refine Kr1_bnd ?_ (fun _ _ _ => ?_) | with_reducible refine Kr1_ck ?_ | with_reducible refine Kr1_ltm ?_ (fun _ _ => ?_) | with_reducible refine Kr1_some ?_ | with_reducible refine Kr1_bo (fun _ => ?_) | with_reducible refine Kr1_T ?_ (fun _ _ _ => ?_) | with_reducible refine Kr1_H ?_ (fun _ _ _ => ?_) (fun _ _ => ?_) | with_reducible exact yr1_hb_Wl_watchesOf_28 (by assumption) hG0 | with_reducible exact hG0 _ _ _ _ (by assumption) | with_reducible refine Kr1_ltv (fun _ => ?_) | with_reducible refine Kr1_I ?_ (by decide) | with_reducible refine Kr1_A ?_ (by decide) | with_reducible refine Kr1_J ?_ | with_reducible refine Kr1_L ?_)
theorem yr1_hb_Wl_watchesOf_0 {G : (MS → Int32 → Int32 → Int32 → Option (MS × Int32))} {v1 : Int32} (h : Kr1c u0 u) (hG0 : ∀ (u : MS) a0 a1 a2, Kr1c u0 u → Kr1E u0 (G u a0 a1 a2)) : Kr1E u0 (hb_Wl_watchesOf_0 N G u v1) := by
  unfold hb_Wl_watchesOf_0
  repeat' (first | with_reducible assumption | with_reducible refine Kr1_br ?_ ?_ | with_reducible refine Kr1_bnd ?_ (fun _ _ _ => ?_) | with_reducible refine Kr1_ck ?_ | with_reducible refine Kr1_ltm ?_ (fun _ _ => ?_) | with_reducible refine Kr1_some ?_ | with_reducible refine Kr1_bo (fun _ => ?_) | with_reducible refine Kr1_T ?_ (fun _ _ _ => ?_) | with_reducible refine Kr1_H ?_ (fun _ _ _ => ?_) (fun _ _ => ?_) | with_reducible exact hG0 _ _ _ _ (by assumption) | with_reducible refine Kr1_ltv (fun _ => ?_) | with_reducible refine Kr1_I ?_ (by decide) | with_reducible refine Kr1_A ?_ (by decide) | with_reducible refine Kr1_J ?_ | with_reducible refine Kr1_L ?_)
theorem yr1_hg_Wl_watchesOf  (n : Nat) : (∀ (u : MS) a0 a1 a2, Kr1c u0 u → Kr1E u0 ((hg_Wl_watchesOf N n) u a0 a1 a2)) := by
  induction n with
  | zero => exact fun _ _ _ _ _ => Kr1_none
  | succ n ih => exact fun _ _ _ _ h => yr1_hb_Wl_watchesOf_4 (N := N) h ih
theorem yr1_hm_Wl_watchesOf {v1 : Int32} (h : Kr1c u0 u)  : Kr1E u0 (hm_Wl_watchesOf N u v1) := by
  unfold hm_Wl_watchesOf
  exact yr1_hb_Wl_watchesOf_0 h ((yr1_hg_Wl_watchesOf N))
theorem yr1_hb_Fr_namesIn_25 {G : Unit} {v0 : Nat} {v1 : Int32} {t0 : Int32} (h : Kr1c u0 u)  : Kr1E u0 (hb_Fr_namesIn_25 N G u v0 v1 t0) := by
  unfold hb_Fr_namesIn_25
  repeat' (first | with_reducible assumption | with_reducible refine Kr1_br ?_ ?_ | with_reducible refine Kr1_bnd ?_ (fun _ _ _ => ?_) | with_reducible refine Kr1_ck ?_ | with_reducible refine Kr1_ltm ?_ (fun _ _ => ?_) | with_reducible refine Kr1_some ?_ | with_reducible refine Kr1_bo (fun _ => ?_) | with_reducible refine Kr1_T ?_ (fun _ _ _ => ?_) | with_reducible refine Kr1_H ?_ (fun _ _ _ => ?_) (fun _ _ => ?_) | with_reducible exact yr1_hm_Fr_of (by assumption) | with_reducible refine Kr1_ltv (fun _ => ?_) | with_reducible refine Kr1_I ?_ (by decide) | with_reducible refine Kr1_A ?_ (by decide) | with_reducible refine Kr1_J ?_ | with_reducible refine Kr1_L ?_)
theorem yr1_hb_Fr_namesIn_0 {G : Unit} {v0 : Nat} {v1 : Int32} (h : Kr1c u0 u)  : Kr1E u0 (hb_Fr_namesIn_0 N G u v0 v1) := by
  unfold hb_Fr_namesIn_0
  repeat' (first | with_reducible assumption | with_reducible refine Kr1_br ?_ ?_ | with_reducible refine Kr1_bnd ?_ (fun _ _ _ => ?_) | with_reducible refine Kr1_ck ?_ | with_reducible refine Kr1_ltm ?_ (fun _ _ => ?_) | with_reducible refine Kr1_some ?_ | with_reducible refine Kr1_bo (fun _ => ?_) | with_reducible refine Kr1_T ?_ (fun _ _ _ => ?_) | with_reducible refine Kr1_H ?_ (fun _ _ _ => ?_) (fun _ _ => ?_) | with_reducible exact yr1_hb_Fr_namesIn_25 (by assumption) | with_reducible exact yr1_hm_Fr_of (by assumption) | with_reducible refine Kr1_ltv (fun _ => ?_) | with_reducible refine Kr1_I ?_ (by decide) | with_reducible refine Kr1_A ?_ (by decide) | with_reducible refine Kr1_J ?_ | with_reducible refine Kr1_L ?_)
theorem yr1_hm_Fr_namesIn {v0 : Nat} {v1 : Int32} (h : Kr1c u0 u)  : Kr1E u0 (hm_Fr_namesIn N u v0 v1) := by
  unfold hm_Fr_namesIn
  exact yr1_hb_Fr_namesIn_0 h
theorem yr1_hb_Fr_waitsIn_25 {G : Unit} {v0 : Nat} {v1 : Int32} {t0 : Int32} (h : Kr1c u0 u)  : Kr1E u0 (hb_Fr_waitsIn_25 N G u v0 v1 t0) := by
  unfold hb_Fr_waitsIn_25
  repeat' (first | with_reducible assumption | with_reducible refine Kr1_br ?_ ?_ | with_reducible refine Kr1_bnd ?_ (fun _ _ _ => ?_) | with_reducible refine Kr1_ck ?_ | with_reducible refine Kr1_ltm ?_ (fun _ _ => ?_) | with_reducible refine Kr1_some ?_ | with_reducible refine Kr1_bo (fun _ => ?_) | with_reducible refine Kr1_T ?_ (fun _ _ _ => ?_) | with_reducible refine Kr1_H ?_ (fun _ _ _ => ?_) (fun _ _ => ?_) | with_reducible exact yr1_hm_Fr_of (by assumption) | with_reducible refine Kr1_ltv (fun _ => ?_) | with_reducible refine Kr1_I ?_ (by decide) | with_reducible refine Kr1_A ?_ (by decide) | with_reducible refine Kr1_J ?_ | with_reducible refine Kr1_L ?_)
theorem yr1_hb_Fr_waitsIn_0 {G : Unit} {v0 : Nat} {v1 : Int32} (h : Kr1c u0 u)  : Kr1E u0 (hb_Fr_waitsIn_0 N G u v0 v1) := by
  unfold hb_Fr_waitsIn_0
  repeat' (first | with_reducible assumption | with_reducible refine Kr1_br ?_ ?_ | with_reducible refine Kr1_bnd ?_ (fun _ _ _ => ?_) | with_reducible refine Kr1_ck ?_ | with_reducible refine Kr1_ltm ?_ (fun _ _ => ?_) | with_reducible refine Kr1_some ?_ | with_reducible refine Kr1_bo (fun _ => ?_) | with_reducible refine Kr1_T ?_ (fun _ _ _ => ?_) | with_reducible refine Kr1_H ?_ (fun _ _ _ => ?_) (fun _ _ => ?_) | with_reducible exact yr1_hb_Fr_waitsIn_25 (by assumption) | with_reducible exact yr1_hm_Fr_of (by assumption) | with_reducible refine Kr1_ltv (fun _ => ?_) | with_reducible refine Kr1_I ?_ (by decide) | with_reducible refine Kr1_A ?_ (by decide) | with_reducible refine Kr1_J ?_ | with_reducible refine Kr1_L ?_)
theorem yr1_hm_Fr_waitsIn {v0 : Nat} {v1 : Int32} (h : Kr1c u0 u)  : Kr1E u0 (hm_Fr_waitsIn N u v0 v1) := by
  unfold hm_Fr_waitsIn
  exact yr1_hb_Fr_waitsIn_0 h
theorem yr1_hb_H_shown_12 {G : Unit} (h : Kr1c u0 u)  : Kr1E u0 (hb_H_shown_12 N G u) := by
  unfold hb_H_shown_12
  repeat' (first | with_reducible assumption | with_reducible refine Kr1_br ?_ ?_ | with_reducible refine Kr1_bnd ?_ (fun _ _ _ => ?_) | with_reducible refine Kr1_ck ?_ | with_reducible refine Kr1_ltm ?_ (fun _ _ => ?_) | with_reducible refine Kr1_some ?_ | with_reducible refine Kr1_bo (fun _ => ?_) | with_reducible refine Kr1_T ?_ (fun _ _ _ => ?_) | with_reducible refine Kr1_H ?_ (fun _ _ _ => ?_) (fun _ _ => ?_) | with_reducible refine Kr1_ltv (fun _ => ?_) | with_reducible refine Kr1_I ?_ (by decide) | with_reducible refine Kr1_A ?_ (by decide) | with_reducible refine Kr1_J ?_ | with_reducible refine Kr1_L ?_)
theorem yr1_hb_H_shown_0 {G : Unit} {v1 : Int32} (h : Kr1c u0 u)  : Kr1E u0 (hb_H_shown_0 N G u v1) := by
  unfold hb_H_shown_0
  repeat' (first | with_reducible assumption | with_reducible refine Kr1_br ?_ ?_ | with_reducible refine Kr1_bnd ?_ (fun _ _ _ => ?_) | with_reducible refine Kr1_ck ?_ | with_reducible refine Kr1_ltm ?_ (fun _ _ => ?_) | with_reducible refine Kr1_some ?_ | with_reducible refine Kr1_bo (fun _ => ?_) | with_reducible refine Kr1_T ?_ (fun _ _ _ => ?_) | with_reducible refine Kr1_H ?_ (fun _ _ _ => ?_) (fun _ _ => ?_) | with_reducible exact yr1_hb_H_shown_12 (by assumption) | with_reducible refine Kr1_ltv (fun _ => ?_) | with_reducible refine Kr1_I ?_ (by decide) | with_reducible refine Kr1_A ?_ (by decide) | with_reducible refine Kr1_J ?_ | with_reducible refine Kr1_L ?_)
theorem yr1_hm_H_shown {v1 : Int32} (h : Kr1c u0 u)  : Kr1E u0 (hm_H_shown N u v1) := by
  unfold hm_H_shown
  exact yr1_hb_H_shown_0 h
theorem yr1_hb_H_printed_32 {G : Unit} (h : Kr1c u0 u)  : Kr1E u0 (hb_H_printed_32 N G u) := by
  unfold hb_H_printed_32
  repeat' (first | with_reducible assumption | with_reducible refine Kr1_br ?_ ?_ | with_reducible refine Kr1_bnd ?_ (fun _ _ _ => ?_) | with_reducible refine Kr1_ck ?_ | with_reducible refine Kr1_ltm ?_ (fun _ _ => ?_) | with_reducible refine Kr1_some ?_ | with_reducible refine Kr1_bo (fun _ => ?_) | with_reducible refine Kr1_T ?_ (fun _ _ _ => ?_) | with_reducible refine Kr1_H ?_ (fun _ _ _ => ?_) (fun _ _ => ?_) | with_reducible refine Kr1_ltv (fun _ => ?_) | with_reducible refine Kr1_I ?_ (by decide) | with_reducible refine Kr1_A ?_ (by decide) | with_reducible refine Kr1_J ?_ | with_reducible refine Kr1_L ?_)
theorem yr1_hb_H_printed_0 {G : Unit} {v1 : Int32} {v2 : Int32} (h : Kr1c u0 u)  : Kr1E u0 (hb_H_printed_0 N G u v1 v2) := by
  unfold hb_H_printed_0
  repeat' (first | with_reducible assumption | with_reducible refine Kr1_br ?_ ?_ | with_reducible refine Kr1_bnd ?_ (fun _ _ _ => ?_) | with_reducible refine Kr1_ck ?_ | with_reducible refine Kr1_ltm ?_ (fun _ _ => ?_) | with_reducible refine Kr1_some ?_ | with_reducible refine Kr1_bo (fun _ => ?_) | with_reducible refine Kr1_T ?_ (fun _ _ _ => ?_) | with_reducible refine Kr1_H ?_ (fun _ _ _ => ?_) (fun _ _ => ?_) | with_reducible exact yr1_hb_H_printed_32 (by assumption) | with_reducible refine Kr1_ltv (fun _ => ?_) | with_reducible refine Kr1_I ?_ (by decide) | with_reducible refine Kr1_A ?_ (by decide) | with_reducible refine Kr1_J ?_ | with_reducible refine Kr1_L ?_)
theorem yr1_hm_H_printed {v1 : Int32} {v2 : Int32} (h : Kr1c u0 u)  : Kr1E u0 (hm_H_printed N u v1 v2) := by
  unfold hm_H_printed
  exact yr1_hb_H_printed_0 h
theorem yr1_hb_Wl_find_22 {G : Unit} {t0 : Option Nat} (h : Kr1c u0 u)  : Kr1E u0 (hb_Wl_find_22 N G u t0) := by
  unfold hb_Wl_find_22
  repeat' (first | with_reducible assumption | with_reducible refine Kr1_br ?_ ?_ | with_reducible refine Kr1_bnd ?_ (fun _ _ _ => ?_) | with_reducible refine Kr1_ck ?_ | with_reducible refine Kr1_ltm ?_ (fun _ _ => ?_) | with_reducible refine Kr1_some ?_ | with_reducible refine Kr1_bo (fun _ => ?_) | with_reducible refine Kr1_T ?_ (fun _ _ _ => ?_) | with_reducible refine Kr1_H ?_ (fun _ _ _ => ?_) (fun _ _ => ?_) | with_reducible refine Kr1_ltv (fun _ => ?_) | with_reducible refine Kr1_I ?_ (by decide) | with_reducible refine Kr1_A ?_ (by decide) | with_reducible refine Kr1_J ?_ | with_reducible refine Kr1_L ?_)
theorem yr1_hb_Wl_find_12 {G : Unit} (h : Kr1c u0 u)  : Kr1E u0 (hb_Wl_find_12 N G u) := by
  unfold hb_Wl_find_12
  repeat' (first | with_reducible assumption | with_reducible refine Kr1_br ?_ ?_ | with_reducible refine Kr1_bnd ?_ (fun _ _ _ => ?_) | with_reducible refine Kr1_ck ?_ | with_reducible refine Kr1_ltm ?_ (fun _ _ => ?_) | with_reducible refine Kr1_some ?_ | with_reducible refine Kr1_bo (fun _ => ?_) | with_reducible refine Kr1_T ?_ (fun _ _ _ => ?_) | with_reducible refine Kr1_H ?_ (fun _ _ _ => ?_) (fun _ _ => ?_) | with_reducible exact yr1_hb_Wl_find_22 (by assumption) | with_reducible refine Kr1_ltv (fun _ => ?_) | with_reducible refine Kr1_I ?_ (by decide) | with_reducible refine Kr1_A ?_ (by decide) | with_reducible refine Kr1_J ?_ | with_reducible refine Kr1_L ?_)
theorem yr1_hb_Wl_find_0 {G : Unit} {v1 : Int32} (h : Kr1c u0 u)  : Kr1E u0 (hb_Wl_find_0 N G u v1) := by
  unfold hb_Wl_find_0
  repeat' (first | with_reducible assumption | with_reducible refine Kr1_br ?_ ?_ | with_reducible refine Kr1_bnd ?_ (fun _ _ _ => ?_) | with_reducible refine Kr1_ck ?_ | with_reducible refine Kr1_ltm ?_ (fun _ _ => ?_) | with_reducible refine Kr1_some ?_ | with_reducible refine Kr1_bo (fun _ => ?_) | with_reducible refine Kr1_T ?_ (fun _ _ _ => ?_) | with_reducible refine Kr1_H ?_ (fun _ _ _ => ?_) (fun _ _ => ?_) | with_reducible exact yr1_hb_Wl_find_12 (by assumption) | with_reducible exact yr1_hb_Wl_find_22 (by assumption) | with_reducible refine Kr1_ltv (fun _ => ?_) | with_reducible refine Kr1_I ?_ (by decide) | with_reducible refine Kr1_A ?_ (by decide) | with_reducible refine Kr1_J ?_ | with_reducible refine Kr1_L ?_)
theorem yr1_hm_Wl_find {v1 : Int32} (h : Kr1c u0 u)  : Kr1E u0 (hm_Wl_find N u v1) := by
  unfold hm_Wl_find
  exact yr1_hb_Wl_find_0 h
theorem yr1_hb_Pr_wakes_26 {G : Unit} {t0 : Int32} (h : Kr1c u0 u)  : Kr1E u0 (hb_Pr_wakes_26 N G u t0) := by
  unfold hb_Pr_wakes_26
  repeat' (first | with_reducible assumption | with_reducible refine Kr1_br ?_ ?_ | with_reducible refine Kr1_bnd ?_ (fun _ _ _ => ?_) | with_reducible refine Kr1_ck ?_ | with_reducible refine Kr1_ltm ?_ (fun _ _ => ?_) | with_reducible refine Kr1_some ?_ | with_reducible refine Kr1_bo (fun _ => ?_) | with_reducible refine Kr1_T ?_ (fun _ _ _ => ?_) | with_reducible refine Kr1_H ?_ (fun _ _ _ => ?_) (fun _ _ => ?_) | with_reducible refine Kr1_ltv (fun _ => ?_) | with_reducible refine Kr1_I ?_ (by decide) | with_reducible refine Kr1_A ?_ (by decide) | with_reducible refine Kr1_J ?_ | with_reducible refine Kr1_L ?_)
theorem yr1_hb_Pr_wakes_0 {G : Unit} {v0 : Nat} (h : Kr1c u0 u)  : Kr1E u0 (hb_Pr_wakes_0 N G u v0) := by
  unfold hb_Pr_wakes_0
  repeat' (first | with_reducible assumption | with_reducible refine Kr1_br ?_ ?_ | with_reducible refine Kr1_bnd ?_ (fun _ _ _ => ?_) | with_reducible refine Kr1_ck ?_ | with_reducible refine Kr1_ltm ?_ (fun _ _ => ?_) | with_reducible refine Kr1_some ?_ | with_reducible refine Kr1_bo (fun _ => ?_) | with_reducible refine Kr1_T ?_ (fun _ _ _ => ?_) | with_reducible refine Kr1_H ?_ (fun _ _ _ => ?_) (fun _ _ => ?_) | with_reducible exact yr1_hb_Pr_wakes_26 (by assumption) | with_reducible refine Kr1_ltv (fun _ => ?_) | with_reducible refine Kr1_I ?_ (by decide) | with_reducible refine Kr1_A ?_ (by decide) | with_reducible refine Kr1_J ?_ | with_reducible refine Kr1_L ?_)
theorem yr1_hm_Pr_wakes {v0 : Nat} (h : Kr1c u0 u)  : Kr1E u0 (hm_Pr_wakes N u v0) := by
  unfold hm_Pr_wakes
  exact yr1_hb_Pr_wakes_0 h
theorem yr1_hb_H_process_269 {G : Unit} {t0 : Int32} (h : Kr1c u0 u)  : Kr1E u0 (hb_H_process_269 N G u t0) := by
  unfold hb_H_process_269
  repeat' (first | with_reducible assumption | with_reducible refine Kr1_br ?_ ?_ | with_reducible refine Kr1_bnd ?_ (fun _ _ _ => ?_) | with_reducible refine Kr1_ck ?_ | with_reducible refine Kr1_ltm ?_ (fun _ _ => ?_) | with_reducible refine Kr1_some ?_ | with_reducible refine Kr1_bo (fun _ => ?_) | with_reducible refine Kr1_T ?_ (fun _ _ _ => ?_) | with_reducible refine Kr1_H ?_ (fun _ _ _ => ?_) (fun _ _ => ?_) | with_reducible refine Kr1_ltv (fun _ => ?_) | with_reducible refine Kr1_I ?_ (by decide) | with_reducible refine Kr1_A ?_ (by decide) | with_reducible refine Kr1_J ?_ | with_reducible refine Kr1_L ?_)
theorem yr1_hb_H_process_252 {G : Unit} {t0 : Int32} (h : Kr1c u0 u)  : Kr1E u0 (hb_H_process_252 N G u t0) := by
  unfold hb_H_process_252
  repeat' (first | with_reducible assumption | with_reducible refine Kr1_br ?_ ?_ | with_reducible refine Kr1_bnd ?_ (fun _ _ _ => ?_) | with_reducible refine Kr1_ck ?_ | with_reducible refine Kr1_ltm ?_ (fun _ _ => ?_) | with_reducible refine Kr1_some ?_ | with_reducible refine Kr1_bo (fun _ => ?_) | with_reducible refine Kr1_T ?_ (fun _ _ _ => ?_) | with_reducible refine Kr1_H ?_ (fun _ _ _ => ?_) (fun _ _ => ?_) | with_reducible refine Kr1_ltv (fun _ => ?_) | with_reducible refine Kr1_I ?_ (by decide) | with_reducible refine Kr1_A ?_ (by decide) | with_reducible refine Kr1_J ?_ | with_reducible refine Kr1_L ?_)
theorem yr1_hb_H_process_233 {G : Unit} {t0 : Int32} (h : Kr1c u0 u)  : Kr1E u0 (hb_H_process_233 N G u t0) := by
  unfold hb_H_process_233
  repeat' (first | with_reducible assumption | with_reducible refine Kr1_br ?_ ?_ | with_reducible refine Kr1_bnd ?_ (fun _ _ _ => ?_) | with_reducible refine Kr1_ck ?_ | with_reducible refine Kr1_ltm ?_ (fun _ _ => ?_) | with_reducible refine Kr1_some ?_ | with_reducible refine Kr1_bo (fun _ => ?_) | with_reducible refine Kr1_T ?_ (fun _ _ _ => ?_) | with_reducible refine Kr1_H ?_ (fun _ _ _ => ?_) (fun _ _ => ?_) | with_reducible refine Kr1_ltv (fun _ => ?_) | with_reducible refine Kr1_I ?_ (by decide) | with_reducible refine Kr1_A ?_ (by decide) | with_reducible refine Kr1_J ?_ | with_reducible refine Kr1_L ?_)
theorem yr1_hb_H_process_219 {G : Unit} {t0 : Int32} (h : Kr1c u0 u)  : Kr1E u0 (hb_H_process_219 N G u t0) := by
  unfold hb_H_process_219
  repeat' (first | with_reducible assumption | with_reducible refine Kr1_br ?_ ?_ | with_reducible refine Kr1_bnd ?_ (fun _ _ _ => ?_) | with_reducible refine Kr1_ck ?_ | with_reducible refine Kr1_ltm ?_ (fun _ _ => ?_) | with_reducible refine Kr1_some ?_ | with_reducible refine Kr1_bo (fun _ => ?_) | with_reducible refine Kr1_T ?_ (fun _ _ _ => ?_) | with_reducible refine Kr1_H ?_ (fun _ _ _ => ?_) (fun _ _ => ?_) | with_reducible refine Kr1_ltv (fun _ => ?_) | with_reducible refine Kr1_I ?_ (by decide) | with_reducible refine Kr1_A ?_ (by decide) | with_reducible refine Kr1_J ?_ | with_reducible refine Kr1_L ?_)
theorem yr1_hb_H_process_218 {G : Unit} (h : Kr1c u0 u)  : Kr1E u0 (hb_H_process_218 N G u) := by
  unfold hb_H_process_218
  repeat' (first | with_reducible assumption | with_reducible refine Kr1_br ?_ ?_ | with_reducible refine Kr1_bnd ?_ (fun _ _ _ => ?_) | with_reducible refine Kr1_ck ?_ | with_reducible refine Kr1_ltm ?_ (fun _ _ => ?_) | with_reducible refine Kr1_some ?_ | with_reducible refine Kr1_bo (fun _ => ?_) | with_reducible refine Kr1_T ?_ (fun _ _ _ => ?_) | with_reducible refine Kr1_H ?_ (fun _ _ _ => ?_) (fun _ _ => ?_) | with_reducible exact yr1_hb_H_process_219 (by assumption) | with_reducible refine Kr1_ltv (fun _ => ?_) | with_reducible refine Kr1_I ?_ (by decide) | with_reducible refine Kr1_A ?_ (by decide) | with_reducible refine Kr1_J ?_ | with_reducible refine Kr1_L ?_)
theorem yr1_hb_H_process_201 {G : Unit} {t0 : Int32} (h : Kr1c u0 u)  : Kr1E u0 (hb_H_process_201 N G u t0) := by
  unfold hb_H_process_201
  repeat' (first | with_reducible assumption | with_reducible refine Kr1_br ?_ ?_ | with_reducible refine Kr1_bnd ?_ (fun _ _ _ => ?_) | with_reducible refine Kr1_ck ?_ | with_reducible refine Kr1_ltm ?_ (fun _ _ => ?_) | with_reducible refine Kr1_some ?_ | with_reducible refine Kr1_bo (fun _ => ?_) | with_reducible refine Kr1_T ?_ (fun _ _ _ => ?_) | with_reducible refine Kr1_H ?_ (fun _ _ _ => ?_) (fun _ _ => ?_) | with_reducible refine Kr1_ltv (fun _ => ?_) | with_reducible refine Kr1_I ?_ (by decide) | with_reducible refine Kr1_A ?_ (by decide) | with_reducible refine Kr1_J ?_ | with_reducible refine Kr1_L ?_)
theorem yr1_hb_H_process_183 {G : Unit} {t0 : Int32} (h : Kr1c u0 u)  : Kr1E u0 (hb_H_process_183 N G u t0) := by
  unfold hb_H_process_183
  repeat' (first | with_reducible assumption | with_reducible refine Kr1_br ?_ ?_ | with_reducible refine Kr1_bnd ?_ (fun _ _ _ => ?_) | with_reducible refine Kr1_ck ?_ | with_reducible refine Kr1_ltm ?_ (fun _ _ => ?_) | with_reducible refine Kr1_some ?_ | with_reducible refine Kr1_bo (fun _ => ?_) | with_reducible refine Kr1_T ?_ (fun _ _ _ => ?_) | with_reducible refine Kr1_H ?_ (fun _ _ _ => ?_) (fun _ _ => ?_) | with_reducible refine Kr1_ltv (fun _ => ?_) | with_reducible refine Kr1_I ?_ (by decide) | with_reducible refine Kr1_A ?_ (by decide) | with_reducible refine Kr1_J ?_ | with_reducible refine Kr1_L ?_)
theorem yr1_hb_H_process_169 {G : Unit} {t0 : Int32} (h : Kr1c u0 u)  : Kr1E u0 (hb_H_process_169 N G u t0) := by
  unfold hb_H_process_169
  repeat' (first | with_reducible assumption | with_reducible refine Kr1_br ?_ ?_ | with_reducible refine Kr1_bnd ?_ (fun _ _ _ => ?_) | with_reducible refine Kr1_ck ?_ | with_reducible refine Kr1_ltm ?_ (fun _ _ => ?_) | with_reducible refine Kr1_some ?_ | with_reducible refine Kr1_bo (fun _ => ?_) | with_reducible refine Kr1_T ?_ (fun _ _ _ => ?_) | with_reducible refine Kr1_H ?_ (fun _ _ _ => ?_) (fun _ _ => ?_) | with_reducible refine Kr1_ltv (fun _ => ?_) | with_reducible refine Kr1_I ?_ (by decide) | with_reducible refine Kr1_A ?_ (by decide) | with_reducible refine Kr1_J ?_ | with_reducible refine Kr1_L ?_)
theorem yr1_hb_H_process_150 {G : Unit} {t0 : Int32} (h : Kr1c u0 u)  : Kr1E u0 (hb_H_process_150 N G u t0) := by
  unfold hb_H_process_150
  repeat' (first | with_reducible assumption | with_reducible refine Kr1_br ?_ ?_ | with_reducible refine Kr1_bnd ?_ (fun _ _ _ => ?_) | with_reducible refine Kr1_ck ?_ | with_reducible refine Kr1_ltm ?_ (fun _ _ => ?_) | with_reducible refine Kr1_some ?_ | with_reducible refine Kr1_bo (fun _ => ?_) | with_reducible refine Kr1_T ?_ (fun _ _ _ => ?_) | with_reducible refine Kr1_H ?_ (fun _ _ _ => ?_) (fun _ _ => ?_) | with_reducible refine Kr1_ltv (fun _ => ?_) | with_reducible refine Kr1_I ?_ (by decide) | with_reducible refine Kr1_A ?_ (by decide) | with_reducible refine Kr1_J ?_ | with_reducible refine Kr1_L ?_)
theorem yr1_hb_H_process_136 {G : Unit} {t0 : Int32} (h : Kr1c u0 u)  : Kr1E u0 (hb_H_process_136 N G u t0) := by
  unfold hb_H_process_136
  repeat' (first | with_reducible assumption | with_reducible refine Kr1_br ?_ ?_ | with_reducible refine Kr1_bnd ?_ (fun _ _ _ => ?_) | with_reducible refine Kr1_ck ?_ | with_reducible refine Kr1_ltm ?_ (fun _ _ => ?_) | with_reducible refine Kr1_some ?_ | with_reducible refine Kr1_bo (fun _ => ?_) | with_reducible refine Kr1_T ?_ (fun _ _ _ => ?_) | with_reducible refine Kr1_H ?_ (fun _ _ _ => ?_) (fun _ _ => ?_) | with_reducible refine Kr1_ltv (fun _ => ?_) | with_reducible refine Kr1_I ?_ (by decide) | with_reducible refine Kr1_A ?_ (by decide) | with_reducible refine Kr1_J ?_ | with_reducible refine Kr1_L ?_)
theorem yr1_hb_H_process_119 {G : Unit} {t0 : Int32} (h : Kr1c u0 u)  : Kr1E u0 (hb_H_process_119 N G u t0) := by
  unfold hb_H_process_119
  repeat' (first | with_reducible assumption | with_reducible refine Kr1_br ?_ ?_ | with_reducible refine Kr1_bnd ?_ (fun _ _ _ => ?_) | with_reducible refine Kr1_ck ?_ | with_reducible refine Kr1_ltm ?_ (fun _ _ => ?_) | with_reducible refine Kr1_some ?_ | with_reducible refine Kr1_bo (fun _ => ?_) | with_reducible refine Kr1_T ?_ (fun _ _ _ => ?_) | with_reducible refine Kr1_H ?_ (fun _ _ _ => ?_) (fun _ _ => ?_) | with_reducible refine Kr1_ltv (fun _ => ?_) | with_reducible refine Kr1_I ?_ (by decide) | with_reducible refine Kr1_A ?_ (by decide) | with_reducible refine Kr1_J ?_ | with_reducible refine Kr1_L ?_)
theorem yr1_hb_H_process_115 {G : Unit} {v3 : Nat} (h : Kr1c u0 u)  : Kr1E u0 (hb_H_process_115 N G u v3) := by
  unfold hb_H_process_115
  repeat' (first | with_reducible assumption | with_reducible refine Kr1_br ?_ ?_ | with_reducible refine Kr1_bnd ?_ (fun _ _ _ => ?_) | with_reducible refine Kr1_ck ?_ | with_reducible refine Kr1_ltm ?_ (fun _ _ => ?_) | with_reducible refine Kr1_some ?_ | with_reducible refine Kr1_bo (fun _ => ?_) | with_reducible refine Kr1_T ?_ (fun _ _ _ => ?_) | with_reducible refine Kr1_H ?_ (fun _ _ _ => ?_) (fun _ _ => ?_) | with_reducible exact yr1_hb_H_process_119 (by assumption) | with_reducible refine Kr1_ltv (fun _ => ?_) | with_reducible refine Kr1_I ?_ (by decide) | with_reducible refine Kr1_A ?_ (by decide) | with_reducible refine Kr1_J ?_ | with_reducible refine Kr1_L ?_)
theorem yr1_hb_H_process_28 {G : Unit} {v1 : Int32} {v2 : Int32} {v3 : Nat} {t0 : Int32} (h : Kr1c u0 u)  : Kr1E u0 (hb_H_process_28 N G u v1 v2 v3 t0) := by
  unfold hb_H_process_28
  repeat' (first | with_reducible assumption | with_reducible refine Kr1_br ?_ ?_ | with_reducible refine Kr1_bnd ?_ (fun _ _ _ => ?_) | with_reducible refine Kr1_ck ?_ | with_reducible refine Kr1_ltm ?_ (fun _ _ => ?_) | with_reducible refine Kr1_some ?_ | with_reducible refine Kr1_bo (fun _ => ?_) | with_reducible refine Kr1_T ?_ (fun _ _ _ => ?_) | with_reducible refine Kr1_H ?_ (fun _ _ _ => ?_) (fun _ _ => ?_) | with_reducible exact yr1_hb_H_process_115 (by assumption) | with_reducible exact yr1_hb_H_process_119 (by assumption) | with_reducible exact yr1_hb_H_process_136 (by assumption) | with_reducible exact yr1_hb_H_process_150 (by assumption) | with_reducible exact yr1_hb_H_process_169 (by assumption) | with_reducible exact yr1_hb_H_process_183 (by assumption) | with_reducible exact yr1_hb_H_process_201 (by assumption) | with_reducible exact yr1_hb_H_process_218 (by assumption) | with_reducible exact yr1_hb_H_process_219 (by assumption) | with_reducible exact yr1_hb_H_process_233 (by assumption) | with_reducible exact yr1_hb_H_process_252 (by assumption) | with_reducible exact yr1_hb_H_process_269 (by assumption) | with_reducible exact yr1_hm_Wl_watchesOf (by assumption) | with_reducible exact yr1_hm_Wl_isReady (by assumption) | with_reducible exact yr1_hm_Pr_wakes (by assumption) | with_reducible refine Kr1_ltv (fun _ => ?_) | with_reducible refine Kr1_I ?_ (by decide) | with_reducible refine Kr1_A ?_ (by decide) | with_reducible refine Kr1_J ?_ | with_reducible refine Kr1_L ?_)
theorem yr1_hb_H_process_0 {G : Unit} {v1 : Int32} {v2 : Int32} (h : Kr1c u0 u)  : Kr1E u0 (hb_H_process_0 N G u v1 v2) := by
  unfold hb_H_process_0
  repeat' (first | with_reducible assumption | with_reducible refine Kr1_br ?_ ?_ | with_reducible refine Kr1_bnd ?_ (fun _ _ _ => ?_) | with_reducible refine Kr1_ck ?_ | with_reducible refine Kr1_ltm ?_ (fun _ _ => ?_) | with_reducible refine Kr1_some ?_ | with_reducible refine Kr1_bo (fun _ => ?_) | with_reducible refine Kr1_T ?_ (fun _ _ _ => ?_) | with_reducible refine Kr1_H ?_ (fun _ _ _ => ?_) (fun _ _ => ?_) | with_reducible exact yr1_hb_H_process_28 (by assumption) | with_reducible exact yr1_hm_Wl_find (by assumption) | with_reducible refine Kr1_ltv (fun _ => ?_) | with_reducible refine Kr1_I ?_ (by decide) | with_reducible refine Kr1_A ?_ (by decide) | with_reducible refine Kr1_J ?_ | with_reducible refine Kr1_L ?_)
theorem yr1_hm_H_process {v1 : Int32} {v2 : Int32} (h : Kr1c u0 u)  : Kr1E u0 (hm_H_process N u v1 v2) := by
  unfold hm_H_process
  exact yr1_hb_H_process_0 h
theorem yr1_hb_H_frame_40 {G : Unit} (h : Kr1c u0 u)  : Kr1E u0 (hb_H_frame_40 N G u) := by
  unfold hb_H_frame_40
  repeat' (first | with_reducible assumption | with_reducible refine Kr1_br ?_ ?_ | with_reducible refine Kr1_bnd ?_ (fun _ _ _ => ?_) | with_reducible refine Kr1_ck ?_ | with_reducible refine Kr1_ltm ?_ (fun _ _ => ?_) | with_reducible refine Kr1_some ?_ | with_reducible refine Kr1_bo (fun _ => ?_) | with_reducible refine Kr1_T ?_ (fun _ _ _ => ?_) | with_reducible refine Kr1_H ?_ (fun _ _ _ => ?_) (fun _ _ => ?_) | with_reducible refine Kr1_ltv (fun _ => ?_) | with_reducible refine Kr1_I ?_ (by decide) | with_reducible refine Kr1_A ?_ (by decide) | with_reducible refine Kr1_J ?_ | with_reducible refine Kr1_L ?_)
theorem yr1_hb_H_frame_0 {G : Unit} {v1 : Int32} {v2 : Int32} {v3 : Int32} (h : Kr1c u0 u)  : Kr1E u0 (hb_H_frame_0 N G u v1 v2 v3) := by
  unfold hb_H_frame_0
  repeat' (first | with_reducible assumption | with_reducible refine Kr1_br ?_ ?_ | with_reducible refine Kr1_bnd ?_ (fun _ _ _ => ?_) | with_reducible refine Kr1_ck ?_ | with_reducible refine Kr1_ltm ?_ (fun _ _ => ?_) | with_reducible refine Kr1_some ?_ | with_reducible refine Kr1_bo (fun _ => ?_) | with_reducible refine Kr1_T ?_ (fun _ _ _ => ?_) | with_reducible refine Kr1_H ?_ (fun _ _ _ => ?_) (fun _ _ => ?_) | with_reducible exact yr1_hb_H_frame_40 (by assumption) | with_reducible exact yr1_hm_Fr_namesIn (by assumption) | with_reducible exact yr1_hm_Fr_waitsIn (by assumption) | with_reducible exact yr1_hm_Wl_find (by assumption) | with_reducible exact yr1_hm_Fr_of (by assumption) | with_reducible refine Kr1_ltv (fun _ => ?_) | with_reducible refine Kr1_I ?_ (by decide) | with_reducible refine Kr1_A ?_ (by decide) | with_reducible refine Kr1_J ?_ | with_reducible refine Kr1_L ?_)
theorem yr1_hm_H_frame {v1 : Int32} {v2 : Int32} {v3 : Int32} (h : Kr1c u0 u)  : Kr1E u0 (hm_H_frame N u v1 v2 v3) := by
  unfold hm_H_frame
  exact yr1_hb_H_frame_0 h
theorem yr1_hb_H_link_33 {G : Unit} (h : Kr1c u0 u)  : Kr1E u0 (hb_H_link_33 N G u) := by
  unfold hb_H_link_33
  repeat' (first | with_reducible assumption | with_reducible refine Kr1_br ?_ ?_ | with_reducible refine Kr1_bnd ?_ (fun _ _ _ => ?_) | with_reducible refine Kr1_ck ?_ | with_reducible refine Kr1_ltm ?_ (fun _ _ => ?_) | with_reducible refine Kr1_some ?_ | with_reducible refine Kr1_bo (fun _ => ?_) | with_reducible refine Kr1_T ?_ (fun _ _ _ => ?_) | with_reducible refine Kr1_H ?_ (fun _ _ _ => ?_) (fun _ _ => ?_) | with_reducible refine Kr1_ltv (fun _ => ?_) | with_reducible refine Kr1_I ?_ (by decide) | with_reducible refine Kr1_A ?_ (by decide) | with_reducible refine Kr1_J ?_ | with_reducible refine Kr1_L ?_)
theorem yr1_hb_H_link_0 {G : Unit} {v1 : Int32} {v2 : Int32} (h : Kr1c u0 u)  : Kr1E u0 (hb_H_link_0 N G u v1 v2) := by
  unfold hb_H_link_0
  repeat' (first | with_reducible assumption | with_reducible refine Kr1_br ?_ ?_ | with_reducible refine Kr1_bnd ?_ (fun _ _ _ => ?_) | with_reducible refine Kr1_ck ?_ | with_reducible refine Kr1_ltm ?_ (fun _ _ => ?_) | with_reducible refine Kr1_some ?_ | with_reducible refine Kr1_bo (fun _ => ?_) | with_reducible refine Kr1_T ?_ (fun _ _ _ => ?_) | with_reducible refine Kr1_H ?_ (fun _ _ _ => ?_) (fun _ _ => ?_) | with_reducible exact yr1_hb_H_link_33 (by assumption) | with_reducible exact yr1_hm_Wl_find (by assumption) | with_reducible refine Kr1_ltv (fun _ => ?_) | with_reducible refine Kr1_I ?_ (by decide) | with_reducible refine Kr1_A ?_ (by decide) | with_reducible refine Kr1_J ?_ | with_reducible refine Kr1_L ?_)
theorem yr1_hm_H_link {v1 : Int32} {v2 : Int32} (h : Kr1c u0 u)  : Kr1E u0 (hm_H_link N u v1 v2) := by
  unfold hm_H_link
  exact yr1_hb_H_link_0 h
end
