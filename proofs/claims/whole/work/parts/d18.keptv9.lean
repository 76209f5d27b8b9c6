/-! what is looked for and written, here, but patterns: long rows stay -/
set_option maxRecDepth 100000
def Kv9c (u w : MS) : Prop := w.2.2.2 = u.2.2.2 ∧ w.2.1 = u.2.1
def Kv9E {α : Type} (u : MS) (o : Option (MS × α)) : Prop := ∀ w r, o = some (w, r) → Kv9c u w
section
variable {α β : Type} {u0 u w : MS} {k : Nat}
theorem Kv9_none : Kv9E u0 (none : Option (MS × α)) := fun _ _ e => by cases e
theorem Kv9_some {r : α} (h : Kv9c u0 w) : Kv9E u0 (some (w, r)) := fun _ _ e => by injection e with e; injection e with e1 _; exact e1 ▸ h
theorem Kv9_br {b : Bool} {p q : Option (MS × α)} (h1 : Kv9E u0 p) (h2 : Kv9E u0 q) : Kv9E u0 (br b p q) := by cases b <;> assumption
theorem Kv9_ck {b : Bool} {p : Option (MS × α)} (h1 : Kv9E u0 p) : Kv9E u0 (ck b p) := by
  cases b
  · exact Kv9_none
  · exact h1
theorem Kv9_bo {o : Option β} {f : β → Option (MS × α)} (h : ∀ j, Kv9E u0 (f j)) : Kv9E u0 (bo o f) := by
  cases o with
  | none => exact Kv9_none
  | some j => exact h j
theorem Kv9_bnd {o : Option (MS × β)} {f : MS → β → Option (MS × α)} (h1 : Kv9E u0 o) (h2 : ∀ w r, Kv9c u0 w → Kv9E u0 (f w r)) : Kv9E u0 (bnd o f) := by
  cases o with
  | none => exact Kv9_none
  | some x => exact h2 x.1 x.2 (h1 x.1 x.2 rfl)
theorem Kv9_T {o : Option (MS × (β ⊕ Nat))} {f : MS → β → Option (MS × (α ⊕ Nat))} (h1 : Kv9E u0 o) (h2 : ∀ w r, Kv9c u0 w → Kv9E u0 (f w r)) : Kv9E u0 (bTm o f) := by
  cases o with
  | none => exact Kv9_none
  | some x =>
    obtain ⟨x, z⟩ := x
    cases z with
    | inl v => exact h2 x v (h1 x _ rfl)
    | inr k => exact Kv9_some (h1 x _ rfl)
theorem Kv9_H {o : Option (MS × (β ⊕ Nat))} {f : MS → β → Option (MS × α)} {g : MS → Option (MS × α)} (h1 : Kv9E u0 o) (h2 : ∀ w r, Kv9c u0 w → Kv9E u0 (f w r)) (h3 : ∀ w, Kv9c u0 w → Kv9E u0 (g w)) : Kv9E u0 (bHm o f g) := by
  cases o with
  | none => exact Kv9_none
  | some x =>
    obtain ⟨x, z⟩ := x
    cases z with
    | inl v => exact h2 x v (h1 x _ rfl)
    | inr k =>
      show Kv9E u0 (if k = 3 then g x else none)
      split
      · exact h3 x (h1 x _ rfl)
      · exact Kv9_none
theorem Kv9_ltm {x : MS} {f : MS → Option (MS × α)} (h1 : Kv9c u0 x) (h2 : ∀ w, Kv9c u0 w → Kv9E u0 (f w)) : Kv9E u0 (lt x f) := h2 x h1
theorem Kv9_ltv {x : β} {f : β → Option (MS × α)} (h2 : ∀ y, Kv9E u0 (f y)) : Kv9E u0 (lt x f) := h2 x
theorem Kv9_I {v : Int32} (h : Kv9c u0 u) (hk : True) : Kv9c u0 (upI u k v) := h
theorem Kv9_L {v : Int64} (h : False) : Kv9c u0 (upL u k v) := h.elim
theorem Kv9_J {v : Nat → Int64} (h : False) : Kv9c u0 (upJ u k v) := h.elim
theorem Kv9_A {v : Nat → Int32} (h : Kv9c u0 u) (hk : True) : Kv9c u0 (upA u k v) := h
theorem Kv9_rf : Kv9c u u := ⟨rfl, rfl⟩
end
section
variable {u0 u : MS} {N : Nat}
theorem yv9_fb_M_node_0 {G : Unit} {v1 : Int32} {v2 : Int32} (h : Kv9c u0 u)  : Kv9E u0 (fb_M_node_0 N G u v1 v2) := by
  unfold fb_M_node_0
  repeat' (first | with_reducible assumption | with_reducible refine Kv9_br ?_ ?_ | with_reducible refine Kv9_bnd ?_ (fun _ _ _ => ?_) | with_reducible refine Kv9_ck ?_ | with_reducible refine Kv9_ltm ?_ (fun _ _ => ?_) | with_reducible refine Kv9_some ?_ | with_reducible refine Kv9_bo (fun _ => ?_) | with_reducible refine Kv9_T ?_ (fun _ _ _ => ?_) | with_reducible refine Kv9_H ?_ (fun _ _ _ => ?_) (fun _ _ => ?_) | with_reducible refine Kv9_ltv (fun _ => ?_) | with_reducible refine Kv9_I ?_ (by decide) | with_reducible refine Kv9_A ?_ trivial | with_reducible refine Kv9_J ?_ | with_reducible refine Kv9_L ?_ | with_reducible refine Kv9_I ?_ trivial)
theorem yv9_fm_M_node {v1 : Int32} {v2 : Int32} (h : Kv9c u0 u)  : Kv9E u0 (fm_M_node N u v1 v2) := by
  unfold fm_M_node
  exact yv9_fb_M_node_0 h
theorem yv9_fb_M_rule_41 {G : Unit} (h : Kv9c u0 u)  : Kv9E u0 (fb_M_rule_41 N G u) := by
  unfold fb_M_rule_41
  repeat' (first | with_reducible assumption | with_reducible refine Kv9_br ?_ ?_ | with_reducible refine Kv9_bnd ?_ (fun _ _ _ => ?_) | with_reducible refine Kv9_ck ?_ | with_reducible refine Kv9_ltm ?_ (fun _ _ => ?_) | with_reducible refine Kv9_some ?_ | with_reducible refine Kv9_bo (fun _ => ?_) | with_reducible refine Kv9_T ?_ (fun _ _ _ => ?_) | with_reducible refine Kv9_H ?_ (fun _ _ _ => ?_) (fun _ _ => ?_) | with_reducible refine Kv9_ltv (fun _ => ?_) | with_reducible refine Kv9_I ?_ (by decide) | with_reducible refine Kv9_A ?_ trivial | with_reducible refine Kv9_J ?_ | with_reducible refine Kv9_L ?_ | with_reducible refine Kv9_I ?_ trivial)
theorem yv9_fb_M_rule_31 {G : Unit} {v1 : Int32} {v2 : Int32} (h : Kv9c u0 u)  : Kv9E u0 (fb_M_rule_31 N G u v1 v2) := by
  unfold fb_M_rule_31
  repeat' (first | with_reducible assumption | with_reducible refine Kv9_br ?_ ?_ | with_reducible refine Kv9_bnd ?_ (fun _ _ _ => ?_) | with_reducible refine Kv9_ck ?_ | with_reducible refine Kv9_ltm ?_ (fun _ _ => ?_) | with_reducible refine Kv9_some ?_ | with_reducible refine Kv9_bo (fun _ => ?_) | with_reducible refine Kv9_T ?_ (fun _ _ _ => ?_) | with_reducible refine Kv9_H ?_ (fun _ _ _ => ?_) (fun _ _ => ?_) | with_reducible exact yv9_fb_M_rule_41 (by assumption) | with_reducible refine Kv9_ltv (fun _ => ?_) | with_reducible refine Kv9_I ?_ (by decide) | with_reducible refine Kv9_A ?_ trivial | with_reducible refine Kv9_J ?_ | with_reducible refine Kv9_L ?_ | with_reducible refine Kv9_I ?_ trivial)
theorem yv9_fb_M_rule_0 {G : Unit} {v1 : Int32} {v2 : Int32} (h : Kv9c u0 u)  : Kv9E u0 (fb_M_rule_0 N G u v1 v2) := by
  unfold fb_M_rule_0
  repeat' (first | with_reducible assumption | with_reducible refine Kv9_br ?_ ?_ | with_reducible refine Kv9_bnd ?_ (fun _ _ _ => ?_) | with_reducible refine Kv9_ck ?_ | with_reducible refine Kv9_ltm ?_ (fun _ _ => ?_) | with_reducible refine Kv9_some ?_ | with_reducible refine Kv9_bo (fun _ => ?_) | with_reducible refine Kv9_T ?_ (fun _ _ _ => ?_) | with_reducible refine Kv9_H ?_ (fun _ _ _ => ?_) (fun _ _ => ?_) | with_reducible exact yv9_fb_M_rule_31 (by assumption) | with_reducible exact yv9_fb_M_rule_41 (by assumption) | with_reducible refine Kv9_ltv (fun _ => ?_) | with_reducible refine Kv9_I ?_ (by decide) | with_reducible refine Kv9_A ?_ trivial | with_reducible refine Kv9_J ?_ | with_reducible refine Kv9_L ?_ | with_reducible refine Kv9_I ?_ trivial)
theorem yv9_fm_M_rule {v1 : Int32} {v2 : Int32} (h : Kv9c u0 u)  : Kv9E u0 (fm_M_rule N u v1 v2) := by
  unfold fm_M_rule
  exact yv9_fb_M_rule_0 h
theorem yv9_fb_M_boundIn_2 {G : (MS → Int32 → Int32 → Int32 → Option (MS × Int32))} {v1 : Int32} {v2 : Int32} {v3 : Int32} (h : Kv9c u0 u) (hG0 : ∀ (u : MS) a0 a1 a2, Kv9c u0 u → Kv9E u0 (G u a0 a1 a2)) : Kv9E u0 (fb_M_boundIn_2 N G u v1 v2 v3) := by
  unfold fb_M_boundIn_2
  repeat' (first | with_reducible assumption | with_reducible refine Kv9_br ?_ ?_ | with_reducible refine Kv9_bnd ?_ (fun _ _ _ => ?_) | with_reducible refine Kv9_ck ?_ | with_reducible refine Kv9_ltm ?_ (fun _ _ => ?_) | with_reducible refine Kv9_some ?_ | with_reducible refine Kv9_bo (fun _ => ?_) | with_reducible refine Kv9_T ?_ (fun _ _ _ => ?_) | with_reducible refine Kv9_H ?_ (fun _ _ _ => ?_) (fun _ _ => ?_) | with_reducible exact hG0 _ _ _ _ (by assumption) | with_reducible refine Kv9_ltv (fun _ => ?_) | with_reducible refine Kv9_I ?_ (by decide) | with_reducible refine Kv9_A ?_ trivial | with_reducible refine Kv9_J ?_ | with_reducible refine Kv9_L ?_ | with_reducible refine Kv9_I ?_ trivial)
theorem yv9_fb_M_boundIn_0 {G : (MS → Int32 → Int32 → Int32 → Option (MS × Int32))} {v1 : Int32} {v2 : Int32} (h : Kv9c u0 u) (hG0 : ∀ (u : MS) a0 a1 a2, Kv9c u0 u → Kv9E u0 (G u a0 a1 a2)) : Kv9E u0 (fb_M_boundIn_0 N G u v1 v2) := by
  unfold fb_M_boundIn_0
  repeat' (first | with_reducible assumption | with_reducible refine Kv9_br ?_ ?_ | with_reducible refine Kv9_bnd ?_ (fun _ _ _ => ?_) | with_reducible refine Kv9_ck ?_ | with_reducible refine Kv9_ltm ?_ (fun _ _ => ?_) | with_reducible refine Kv9_some ?_ | with_reducible refine Kv9_bo (fun _ => ?_) | with_reducible refine Kv9_T ?_ (fun _ _ _ => ?_) | with_reducible refine Kv9_H ?_ (fun _ _ _ => ?_) (fun _ _ => ?_) | with_reducible exact hG0 _ _ _ _ (by assumption) | with_reducible refine Kv9_ltv (fun _ => ?_) | with_reducible refine Kv9_I ?_ (by decide) | with_reducible refine Kv9_A ?_ trivial | with_reducible refine Kv9_J ?_ | with_reducible refine Kv9_L ?_ | with_reducible refine Kv9_I ?_ trivial)
theorem yv9_gg_M_boundIn  (n : Nat) : (∀ (u : MS) a0 a1 a2, Kv9c u0 u → Kv9E u0 ((gg_M_boundIn N n) u a0 a1 a2)) := by
  induction n with
  | zero => exact fun _ _ _ _ _ => Kv9_none
  | succ n ih => exact fun _ _ _ _ h => yv9_fb_M_boundIn_2 (N := N) h ih
theorem yv9_fm_M_boundIn {v1 : Int32} {v2 : Int32} (h : Kv9c u0 u)  : Kv9E u0 (fm_M_boundIn N u v1 v2) := by
  unfold fm_M_boundIn
  exact yv9_fb_M_boundIn_0 h ((yv9_gg_M_boundIn N))
theorem yv9_fb_M_found_17 {S : SG_M_found} {G : (MS → Int32 → Int32 → Int32 → Option (MS × Int32))} {v1 : Int32} {v2 : Int32} {v4 : Int32} (h : Kv9c u0 u) (hS0 : ∀ (u : MS) a0 a1, Kv9c u0 u → Kv9E u0 (S u a0 a1)) (hG0 : ∀ (u : MS) a0 a1 a2, Kv9c u0 u → Kv9E u0 (G u a0 a1 a2)) : Kv9E u0 (fb_M_found_17 N S G u v1 v2 v4) := by
  unfold fb_M_found_17
  repeat' (first | with_reducible assumption | with_reducible refine Kv9_br ?_ ?_ | with_reducible refine Kv9_bnd ?_ (fun _ _ _ => ?_) | with_reducible refine Kv9_ck ?_ | with_reducible refine Kv9_ltm ?_ (fun _ _ => ?_) | with_reducible refine Kv9_some ?_ | with_reducible refine Kv9_bo (fun _ => ?_) | with_reducible refine Kv9_T ?_ (fun _ _ _ => ?_) | with_reducible refine Kv9_H ?_ (fun _ _ _ => ?_) (fun _ _ => ?_) | with_reducible exact hS0 _ _ _ (by assumption) | with_reducible exact hG0 _ _ _ _ (by assumption) | with_reducible refine Kv9_ltv (fun _ => ?_) | with_reducible refine Kv9_I ?_ (by decide) | with_reducible refine Kv9_A ?_ trivial | with_reducible refine Kv9_J ?_ | with_reducible refine Kv9_L ?_ | with_reducible refine Kv9_I ?_ trivial)
theorem yv9_fb_M_found_0 {S : SG_M_found} {G : (MS → Int32 → Int32 → Int32 → Option (MS × Int32))} {v1 : Int32} {v2 : Int32} (h : Kv9c u0 u) (hS0 : ∀ (u : MS) a0 a1, Kv9c u0 u → Kv9E u0 (S u a0 a1)) (hG0 : ∀ (u : MS) a0 a1 a2, Kv9c u0 u → Kv9E u0 (G u a0 a1 a2)) : Kv9E u0 (fb_M_found_0 N S G u v1 v2) := by
  unfold fb_M_found_0
  repeat' (first | with_reducible assumption | with_reducible refine Kv9_br ?_ ?_ | with_reducible refine Kv9_bnd ?_ (fun _ _ _ => ?_) | with_reducible refine Kv9_ck ?_ | with_reducible refine Kv9_ltm ?_ (fun _ _ => ?_) | with_reducible refine Kv9_some ?_ | with_reducible refine Kv9_bo (fun _ => ?_) | with_reducible refine Kv9_T ?_ (fun _ _ _ => ?_) | with_reducible refine Kv9_H ?_ (fun _ _ _ => ?_) (fun _ _ => ?_) | with_reducible exact yv9_fm_M_boundIn (by assumption) | with_reducible exact hS0 _ _ _ (by assumption) | with_reducible exact hG0 _ _ _ _ (by assumption) | with_reducible refine Kv9_ltv (fun _ => ?_) | with_reducible refine Kv9_I ?_ (by decide) | with_reducible refine Kv9_A ?_ trivial | with_reducible refine Kv9_J ?_ | with_reducible refine Kv9_L ?_ | with_reducible refine Kv9_I ?_ trivial)
theorem yv9_gg_M_found {S : SG_M_found} (hS0 : ∀ (u : MS) a0 a1, Kv9c u0 u → Kv9E u0 (S u a0 a1)) (n : Nat) : (∀ (u : MS) a0 a1 a2, Kv9c u0 u → Kv9E u0 ((gg_M_found N S n) u a0 a1 a2)) := by
  induction n with
  | zero => exact fun _ _ _ _ _ => Kv9_none
  | succ n ih => exact fun _ _ _ _ h => yv9_fb_M_found_17 (N := N) h hS0 ih
theorem yv9_fm_M_found {S : SG_M_found} {v1 : Int32} {v2 : Int32} (h : Kv9c u0 u) (hS0 : ∀ (u : MS) a0 a1, Kv9c u0 u → Kv9E u0 (S u a0 a1)) : Kv9E u0 (fm_M_found N S u v1 v2) := by
  unfold fm_M_found
  exact yv9_fb_M_found_0 h hS0 ((yv9_gg_M_found (N := N) hS0 N))
theorem yv9_rc_M_found  (n : Nat) : (∀ (u : MS) a0 a1, Kv9c u0 u → Kv9E u0 ((rc_M_found N n) u a0 a1)) := by
  induction n with
  | zero => exact fun _ _ _ _ => Kv9_none
  | succ n ih => exact fun _ _ _ h => yv9_fm_M_found (N := N) h ih
theorem yv9_fr_M_found {v1 : Int32} {v2 : Int32} (h : Kv9c u0 u) : Kv9E u0 (fr_M_found N u v1 v2) := by
  unfold fr_M_found
  exact (yv9_rc_M_found (N := N) 30) _ _ _ h
theorem yv9_fb_M_bind_107 {G : Unit} (h : Kv9c u0 u)  : Kv9E u0 (fb_M_bind_107 N G u) := by
  unfold fb_M_bind_107
  repeat' (first | with_reducible assumption | with_reducible refine Kv9_br ?_ ?_ | with_reducible refine Kv9_bnd ?_ (fun _ _ _ => ?_) | with_reducible refine Kv9_ck ?_ | with_reducible refine Kv9_ltm ?_ (fun _ _ => ?_) | with_reducible refine Kv9_some ?_ | with_reducible refine Kv9_bo (fun _ => ?_) | with_reducible refine Kv9_T ?_ (fun _ _ _ => ?_) | with_reducible refine Kv9_H ?_ (fun _ _ _ => ?_) (fun _ _ => ?_) | with_reducible refine Kv9_ltv (fun _ => ?_) | with_reducible refine Kv9_I ?_ (by decide) | with_reducible refine Kv9_A ?_ trivial | with_reducible refine Kv9_J ?_ | with_reducible refine Kv9_L ?_ | with_reducible refine Kv9_I ?_ trivial)
theorem yv9_fb_M_bind_87 {G : Unit} {t0 : Nat} {t1 : Int32} {t2 : Int32} (h : Kv9c u0 u) (hn0 : t0 = t0) : Kv9E u0 (fb_M_bind_87 N G u t0 t1 t2) := by
  unfold fb_M_bind_87
  repeat' (first | with_reducible assumption | with_reducible refine Kv9_A ?_ hn0 | with_reducible refine Kv9_br ?_ ?_ | with_reducible refine Kv9_bnd ?_ (fun _ _ _ => ?_) | with_reducible refine Kv9_ck ?_ | with_reducible refine Kv9_ltm ?_ (fun _ _ => ?_) | with_reducible refine Kv9_some ?_ | with_reducible refine Kv9_bo (fun _ => ?_) | with_reducible refine Kv9_T ?_ (fun _ _ _ => ?_) | with_reducible refine Kv9_H ?_ (fun _ _ _ => ?_) (fun _ _ => ?_) | with_reducible exact yv9_fb_M_bind_107 (by assumption) | with_reducible refine Kv9_ltv (fun _ => ?_) | with_reducible refine Kv9_I ?_ (by decide) | with_reducible refine Kv9_A ?_ trivial | with_reducible refine Kv9_J ?_ | with_reducible refine Kv9_L ?_ | with_reducible refine Kv9_I ?_ trivial)
theorem yv9_fb_M_bind_0 {G : Unit} {v1 : Int32} (h : Kv9c u0 u)  : Kv9E u0 (fb_M_bind_0 N G u v1) := by
  unfold fb_M_bind_0
  repeat' (first | with_reducible assumption | with_reducible refine Kv9_br ?_ ?_ | with_reducible refine Kv9_bnd ?_ (fun _ _ _ => ?_) | with_reducible refine Kv9_ck ?_ | with_reducible refine Kv9_ltm ?_ (fun _ _ => ?_) | with_reducible refine Kv9_some ?_ | with_reducible refine Kv9_bo (fun _ => ?_) | with_reducible refine Kv9_T ?_ (fun _ _ _ => ?_) | with_reducible refine Kv9_H ?_ (fun _ _ _ => ?_) (fun _ _ => ?_) | with_reducible exact yv9_fb_M_bind_87 (by assumption) (by first | decide | assumption) | with_reducible refine Kv9_ltv (fun _ => ?_) | with_reducible refine Kv9_I ?_ (by decide) | with_reducible refine Kv9_A ?_ trivial | with_reducible refine Kv9_J ?_ | with_reducible refine Kv9_L ?_ | with_reducible refine Kv9_I ?_ trivial)
theorem yv9_fm_M_bind {v1 : Int32} (h : Kv9c u0 u)  : Kv9E u0 (fm_M_bind N u v1) := by
  unfold fm_M_bind
  exact yv9_fb_M_bind_0 h
theorem yv9_fb_M_isUnderscore_47 {G : Unit} {t0 : Int32} (h : Kv9c u0 u)  : Kv9E u0 (fb_M_isUnderscore_47 N G u t0) := by
  unfold fb_M_isUnderscore_47
  repeat' (first | with_reducible assumption | with_reducible refine Kv9_br ?_ ?_ | with_reducible refine Kv9_bnd ?_ (fun _ _ _ => ?_) | with_reducible refine Kv9_ck ?_ | with_reducible refine Kv9_ltm ?_ (fun _ _ => ?_) | with_reducible refine Kv9_some ?_ | with_reducible refine Kv9_bo (fun _ => ?_) | with_reducible refine Kv9_T ?_ (fun _ _ _ => ?_) | with_reducible refine Kv9_H ?_ (fun _ _ _ => ?_) (fun _ _ => ?_) | with_reducible refine Kv9_ltv (fun _ => ?_) | with_reducible refine Kv9_I ?_ (by decide) | with_reducible refine Kv9_A ?_ trivial | with_reducible refine Kv9_J ?_ | with_reducible refine Kv9_L ?_ | with_reducible refine Kv9_I ?_ trivial)
theorem yv9_fb_M_isUnderscore_46 {G : Unit} (h : Kv9c u0 u)  : Kv9E u0 (fb_M_isUnderscore_46 N G u) := by
  unfold fb_M_isUnderscore_46
  repeat' (first | with_reducible assumption | with_reducible refine Kv9_br ?_ ?_ | with_reducible refine Kv9_bnd ?_ (fun _ _ _ => ?_) | with_reducible refine Kv9_ck ?_ | with_reducible refine Kv9_ltm ?_ (fun _ _ => ?_) | with_reducible refine Kv9_some ?_ | with_reducible refine Kv9_bo (fun _ => ?_) | with_reducible refine Kv9_T ?_ (fun _ _ _ => ?_) | with_reducible refine Kv9_H ?_ (fun _ _ _ => ?_) (fun _ _ => ?_) | with_reducible exact yv9_fb_M_isUnderscore_47 (by assumption) | with_reducible refine Kv9_ltv (fun _ => ?_) | with_reducible refine Kv9_I ?_ (by decide) | with_reducible refine Kv9_A ?_ trivial | with_reducible refine Kv9_J ?_ | with_reducible refine Kv9_L ?_ | with_reducible refine Kv9_I ?_ trivial)
theorem yv9_fb_M_isUnderscore_0 {G : Unit} {v1 : Int32} (h : Kv9c u0 u)  : Kv9E u0 (fb_M_isUnderscore_0 N G u v1) := by
  unfold fb_M_isUnderscore_0
  repeat' (first | with_reducible assumption | with_reducible refine Kv9_br ?_ ?_ | with_reducible refine Kv9_bnd ?_ (fun _ _ _ => ?_) | with_reducible refine Kv9_ck ?_ | with_reducible refine Kv9_ltm ?_ (fun _ _ => ?_) | with_reducible refine Kv9_some ?_ | with_reducible refine Kv9_bo (fun _ => ?_) | with_reducible refine Kv9_T ?_ (fun _ _ _ => ?_) | with_reducible refine Kv9_H ?_ (fun _ _ _ => ?_) (fun _ _ => ?_) | with_reducible exact yv9_fb_M_isUnderscore_46 (by assumption) | with_reducible exact yv9_fb_M_isUnderscore_47 (by assumption) | with_reducible refine Kv9_ltv (fun _ => ?_) | with_reducible refine Kv9_I ?_ (by decide) | with_reducible refine Kv9_A ?_ trivial | with_reducible refine Kv9_J ?_ | with_reducible refine Kv9_L ?_ | with_reducible refine Kv9_I ?_ trivial)
theorem yv9_fm_M_isUnderscore {v1 : Int32} (h : Kv9c u0 u)  : Kv9E u0 (fm_M_isUnderscore N u v1) := by
  unfold fm_M_isUnderscore
  exact yv9_fb_M_isUnderscore_0 h
theorem yv9_fb_M_unbind_41 {G : Unit} (h : Kv9c u0 u)  : Kv9E u0 (fb_M_unbind_41 N G u) := by
  unfold fb_M_unbind_41
  repeat' (first | with_reducible assumption | with_reducible refine Kv9_br ?_ ?_ | with_reducible refine Kv9_bnd ?_ (fun _ _ _ => ?_) | with_reducible refine Kv9_ck ?_ | with_reducible refine Kv9_ltm ?_ (fun _ _ => ?_) | with_reducible refine Kv9_some ?_ | with_reducible refine Kv9_bo (fun _ => ?_) | with_reducible refine Kv9_T ?_ (fun _ _ _ => ?_) | with_reducible refine Kv9_H ?_ (fun _ _ _ => ?_) (fun _ _ => ?_) | with_reducible refine Kv9_ltv (fun _ => ?_) | with_reducible refine Kv9_I ?_ (by decide) | with_reducible refine Kv9_A ?_ trivial | with_reducible refine Kv9_J ?_ | with_reducible refine Kv9_L ?_ | with_reducible refine Kv9_I ?_ trivial)
theorem yv9_fb_M_unbind_0 {G : Unit} {v1 : Int32} (h : Kv9c u0 u)  : Kv9E u0 (fb_M_unbind_0 N G u v1) := by
  unfold fb_M_unbind_0
  repeat' (first | with_reducible assumption | with_reducible refine Kv9_br ?_ ?_ | with_reducible refine Kv9_bnd ?_ (fun _ _ _ => ?_) | with_reducible refine Kv9_ck ?_ | with_reducible refine Kv9_ltm ?_ (fun _ _ => ?_) | with_reducible refine Kv9_some ?_ | with_reducible refine Kv9_bo (fun _ => ?_) | with_reducible refine Kv9_T ?_ (fun _ _ _ => ?_) | with_reducible refine Kv9_H ?_ (fun _ _ _ => ?_) (fun _ _ => ?_) | with_reducible exact yv9_fb_M_unbind_41 (by assumption) | with_reducible exact yv9_fm_M_node (by assumption) | with_reducible refine Kv9_ltv (fun _ => ?_) | with_reducible refine Kv9_I ?_ (by decide) | with_reducible refine Kv9_A ?_ trivial | with_reducible refine Kv9_J ?_ | with_reducible refine Kv9_L ?_ | with_reducible refine Kv9_I ?_ trivial)
theorem yv9_fm_M_unbind {v1 : Int32} (h : Kv9c u0 u)  : Kv9E u0 (fm_M_unbind N u v1) := by
  unfold fm_M_unbind
  exact yv9_fb_M_unbind_0 h
theorem yv9_fb_M_save_141 {G : (MS → Int32 → Option (MS × Unit))} {v1 : Int32} (h : Kv9c u0 u) (hG0 : ∀ (u : MS) a0, Kv9c u0 u → Kv9E u0 (G u a0)) : Kv9E u0 (fb_M_save_141 N G u v1) := by
  unfold fb_M_save_141
  repeat' (first | with_reducible assumption | with_reducible refine Kv9_br ?_ ?_ | with_reducible refine Kv9_bnd ?_ (fun _ _ _ => ?_) | with_reducible refine Kv9_ck ?_ | with_reducible refine Kv9_ltm ?_ (fun _ _ => ?_) | with_reducible refine Kv9_some ?_ | with_reducible refine Kv9_bo (fun _ => ?_) | with_reducible refine Kv9_T ?_ (fun _ _ _ => ?_) | with_reducible refine Kv9_H ?_ (fun _ _ _ => ?_) (fun _ _ => ?_) | with_reducible exact hG0 _ _ (by assumption) | with_reducible refine Kv9_ltv (fun _ => ?_) | with_reducible refine Kv9_I ?_ (by decide) | with_reducible refine Kv9_A ?_ trivial | with_reducible refine Kv9_J ?_ | with_reducible refine Kv9_L ?_ | with_reducible refine Kv9_I ?_ trivial)
theorem yv9_fb_M_save_127 {G : (MS → Int32 → Option (MS × Unit))} {t0 : Nat} {t1 : Int32} {t2 : Int32} (h : Kv9c u0 u) (hn0 : t0 = t0) (hG0 : ∀ (u : MS) a0, Kv9c u0 u → Kv9E u0 (G u a0)) : Kv9E u0 (fb_M_save_127 N G u t0 t1 t2) := by
  unfold fb_M_save_127
  repeat' (first | with_reducible assumption | with_reducible refine Kv9_A ?_ hn0 | with_reducible refine Kv9_br ?_ ?_ | with_reducible refine Kv9_bnd ?_ (fun _ _ _ => ?_) | with_reducible refine Kv9_ck ?_ | with_reducible refine Kv9_ltm ?_ (fun _ _ => ?_) | with_reducible refine Kv9_some ?_ | with_reducible refine Kv9_bo (fun _ => ?_) | with_reducible refine Kv9_T ?_ (fun _ _ _ => ?_) | with_reducible refine Kv9_H ?_ (fun _ _ _ => ?_) (fun _ _ => ?_) | with_reducible exact hG0 _ _ (by assumption) | with_reducible refine Kv9_ltv (fun _ => ?_) | with_reducible refine Kv9_I ?_ (by decide) | with_reducible refine Kv9_A ?_ trivial | with_reducible refine Kv9_J ?_ | with_reducible refine Kv9_L ?_ | with_reducible refine Kv9_I ?_ trivial)
theorem yv9_fb_M_save_0 {G : (MS → Int32 → Option (MS × Unit))} (h : Kv9c u0 u) (hG0 : ∀ (u : MS) a0, Kv9c u0 u → Kv9E u0 (G u a0)) : Kv9E u0 (fb_M_save_0 N G u) := by
  unfold fb_M_save_0
  repeat' (first | with_reducible assumption | with_reducible refine Kv9_br ?_ ?_ | with_reducible refine Kv9_bnd ?_ (fun _ _ _ => ?_) | with_reducible refine Kv9_ck ?_ | with_reducible refine Kv9_ltm ?_ (fun _ _ => ?_) | with_reducible refine Kv9_some ?_ | with_reducible refine Kv9_bo (fun _ => ?_) | with_reducible refine Kv9_T ?_ (fun _ _ _ => ?_) | with_reducible refine Kv9_H ?_ (fun _ _ _ => ?_) (fun _ _ => ?_) | with_reducible exact yv9_fb_M_save_127 (by assumption) (by first | decide | assumption) hG0 | with_reducible exact hG0 _ _ (by assumption) | with_reducible refine Kv9_ltv (fun _ => ?_) | with_reducible refine Kv9_I ?_ (by decide) | with_reducible refine Kv9_A ?_ trivial | with_reducible refine Kv9_J ?_ | with_reducible refine Kv9_L ?_ | with_reducible refine Kv9_I ?_ trivial)
theorem yv9_gg_M_save  (n : Nat) : (∀ (u : MS) a0, Kv9c u0 u → Kv9E u0 ((gg_M_save N n) u a0)) := by
  induction n with
  | zero => exact fun _ _ _ => Kv9_none
  | succ n ih => exact fun _ _ h => yv9_fb_M_save_141 (N := N) h ih
theorem yv9_fm_M_save  (h : Kv9c u0 u)  : Kv9E u0 (fm_M_save N u) := by
  unfold fm_M_save
  exact yv9_fb_M_save_0 h ((yv9_gg_M_save N))
theorem yv9_fb_M_addRoot_24 {G : Unit} (h : Kv9c u0 u)  : Kv9E u0 (fb_M_addRoot_24 N G u) := by
  unfold fb_M_addRoot_24
  repeat' (first | with_reducible assumption | with_reducible refine Kv9_br ?_ ?_ | with_reducible refine Kv9_bnd ?_ (fun _ _ _ => ?_) | with_reducible refine Kv9_ck ?_ | with_reducible refine Kv9_ltm ?_ (fun _ _ => ?_) | with_reducible refine Kv9_some ?_ | with_reducible refine Kv9_bo (fun _ => ?_) | with_reducible refine Kv9_T ?_ (fun _ _ _ => ?_) | with_reducible refine Kv9_H ?_ (fun _ _ _ => ?_) (fun _ _ => ?_) | with_reducible refine Kv9_ltv (fun _ => ?_) | with_reducible refine Kv9_I ?_ (by decide) | with_reducible refine Kv9_A ?_ trivial | with_reducible refine Kv9_J ?_ | with_reducible refine Kv9_L ?_ | with_reducible refine Kv9_I ?_ trivial)
theorem yv9_fb_M_addRoot_0 {G : Unit} {v1 : Int32} {v2 : Int32} (h : Kv9c u0 u)  : Kv9E u0 (fb_M_addRoot_0 N G u v1 v2) := by
  unfold fb_M_addRoot_0
  repeat' (first | with_reducible assumption | with_reducible refine Kv9_br ?_ ?_ | with_reducible refine Kv9_bnd ?_ (fun _ _ _ => ?_) | with_reducible refine Kv9_ck ?_ | with_reducible refine Kv9_ltm ?_ (fun _ _ => ?_) | with_reducible refine Kv9_some ?_ | with_reducible refine Kv9_bo (fun _ => ?_) | with_reducible refine Kv9_T ?_ (fun _ _ _ => ?_) | with_reducible refine Kv9_H ?_ (fun _ _ _ => ?_) (fun _ _ => ?_) | with_reducible exact yv9_fb_M_addRoot_24 (by assumption) | with_reducible refine Kv9_ltv (fun _ => ?_) | with_reducible refine Kv9_I ?_ (by decide) | with_reducible refine Kv9_A ?_ trivial | with_reducible refine Kv9_J ?_ | with_reducible refine Kv9_L ?_ | with_reducible refine Kv9_I ?_ trivial)
theorem yv9_fm_M_addRoot {v1 : Int32} {v2 : Int32} (h : Kv9c u0 u)  : Kv9E u0 (fm_M_addRoot N u v1 v2) := by
  unfold fm_M_addRoot
  exact yv9_fb_M_addRoot_0 h
theorem yv9_fb_M_reduce_258 {G : (MS → Int32 → Int32 → Int32 → Int32 → Option (MS × Int32))} {v4 : Int32} (h : Kv9c u0 u) (hG0 : ∀ (u : MS) a0 a1 a2 a3, Kv9c u0 u → Kv9E u0 (G u a0 a1 a2 a3)) : Kv9E u0 (fb_M_reduce_258 N G u v4) := by
  unfold fb_M_reduce_258
  repeat' (first | with_reducible assumption | with_reducible refine Kv9_br ?_ ?_ | with_reducible refine Kv9_bnd ?_ (fun _ _ _ => ?_) | with_reducible refine Kv9_ck ?_ | with_reducible refine Kv9_ltm ?_ (fun _ _ => ?_) | with_reducible refine Kv9_some ?_ | with_reducible refine Kv9_bo (fun _ => ?_) | with_reducible refine Kv9_T ?_ (fun _ _ _ => ?_) | with_reducible refine Kv9_H ?_ (fun _ _ _ => ?_) (fun _ _ => ?_) | with_reducible exact hG0 _ _ _ _ _ (by assumption) | with_reducible refine Kv9_ltv (fun _ => ?_) | with_reducible refine Kv9_I ?_ (by decide) | with_reducible refine Kv9_A ?_ trivial | with_reducible refine Kv9_J ?_ | with_reducible refine Kv9_L ?_ | with_reducible refine Kv9_I ?_ trivial)
theorem yv9_fb_M_reduce_255 {G : (MS → Int32 → Int32 → Int32 → Int32 → Option (MS × Int32))} {v1 : Int32} {v2 : Int32} {v4 : Int32} {v5 : Int32} (h : Kv9c u0 u) (hG0 : ∀ (u : MS) a0 a1 a2 a3, Kv9c u0 u → Kv9E u0 (G u a0 a1 a2 a3)) : Kv9E u0 (fb_M_reduce_255 N G u v1 v2 v4 v5) := by
  unfold fb_M_reduce_255
  repeat' (first | with_reducible assumption | with_reducible refine Kv9_br ?_ ?_ | with_reducible refine Kv9_bnd ?_ (fun _ _ _ => ?_) | with_reducible refine Kv9_ck ?_ | with_reducible refine Kv9_ltm ?_ (fun _ _ => ?_) | with_reducible refine Kv9_some ?_ | with_reducible refine Kv9_bo (fun _ => ?_) | with_reducible refine Kv9_T ?_ (fun _ _ _ => ?_) | with_reducible refine Kv9_H ?_ (fun _ _ _ => ?_) (fun _ _ => ?_) | with_reducible exact hG0 _ _ _ _ _ (by assumption) | with_reducible refine Kv9_ltv (fun _ => ?_) | with_reducible refine Kv9_I ?_ (by decide) | with_reducible refine Kv9_A ?_ trivial | with_reducible refine Kv9_J ?_ | with_reducible refine Kv9_L ?_ | with_reducible refine Kv9_I ?_ trivial)
theorem yv9_fb_M_reduce_254 {G : (MS → Int32 → Int32 → Int32 → Int32 → Option (MS × Int32))} {v1 : Int32} {v2 : Int32} {v4 : Int32} {v5 : Int32} {t0 : Nat} {t1 : Int32} {t2 : Int32} (h : Kv9c u0 u) (hn0 : t0 = t0) (hG0 : ∀ (u : MS) a0 a1 a2 a3, Kv9c u0 u → Kv9E u0 (G u a0 a1 a2 a3)) : Kv9E u0 (fb_M_reduce_254 N G u v1 v2 v4 v5 t0 t1 t2) := by
  unfold fb_M_reduce_254
  repeat' (first | with_reducible assumption | with_reducible refine Kv9_A ?_ hn0 | with_reducible refine Kv9_br ?_ ?_ | with_reducible refine Kv9_bnd ?_ (fun _ _ _ => ?_) | with_reducible refine Kv9_ck ?_ | with_reducible refine Kv9_ltm ?_ (fun _ _ => ?_) | with_reducible refine Kv9_some ?_ | with_reducible refine Kv9_bo (fun _ => ?_) | with_reducible refine Kv9_T ?_ (fun _ _ _ => ?_) | with_reducible refine Kv9_H ?_ (fun _ _ _ => ?_) (fun _ _ => ?_) | with_reducible exact yv9_fb_M_reduce_255 (by assumption) hG0 | with_reducible exact hG0 _ _ _ _ _ (by assumption) | with_reducible refine Kv9_ltv (fun _ => ?_) | with_reducible refine Kv9_I ?_ (by decide) | with_reducible refine Kv9_A ?_ trivial | with_reducible refine Kv9_J ?_ | with_reducible refine Kv9_L ?_ | with_reducible refine Kv9_I ?_ trivial)
theorem yv9_fb_M_reduce_121 {G : (MS → Int32 → Int32 → Int32 → Int32 → Option (MS × Int32))} {v1 : Int32} {v2 : Int32} {v5 : Int32} {t1 : Int32} (h : Kv9c u0 u) (hG0 : ∀ (u : MS) a0 a1 a2 a3, Kv9c u0 u → Kv9E u0 (G u a0 a1 a2 a3)) : Kv9E u0 (fb_M_reduce_121 N G u v1 v2 v5 t1) := by
  unfold fb_M_reduce_121
  repeat' (first | with_reducible assumption | with_reducible refine Kv9_br ?_ ?_ | with_reducible refine Kv9_bnd ?_ (fun _ _ _ => ?_) | with_reducible refine Kv9_ck ?_ | with_reducible refine Kv9_ltm ?_ (fun _ _ => ?_) | with_reducible refine Kv9_some ?_ | with_reducible refine Kv9_bo (fun _ => ?_) | with_reducible refine Kv9_T ?_ (fun _ _ _ => ?_) | with_reducible refine Kv9_H ?_ (fun _ _ _ => ?_) (fun _ _ => ?_) | with_reducible exact yv9_fb_M_reduce_255 (by assumption) hG0 | with_reducible exact yv9_fm_M_node (by assumption) | with_reducible exact hG0 _ _ _ _ _ (by assumption) | with_reducible refine Kv9_ltv (fun _ => ?_) | with_reducible refine Kv9_I ?_ (by decide) | with_reducible refine Kv9_A ?_ trivial | with_reducible refine Kv9_J ?_ | with_reducible refine Kv9_L ?_ | with_reducible refine Kv9_I ?_ trivial)
theorem yv9_fb_M_reduce_61 {G : (MS → Int32 → Int32 → Int32 → Int32 → Option (MS × Int32))} {v1 : Int32} {v2 : Int32} {v4 : Int32} {v6 : Int32} {t0 : Int32} (h : Kv9c u0 u) (hG0 : ∀ (u : MS) a0 a1 a2 a3, Kv9c u0 u → Kv9E u0 (G u a0 a1 a2 a3)) : Kv9E u0 (fb_M_reduce_61 N G u v1 v2 v4 v6 t0) := by
  unfold fb_M_reduce_61
  repeat' (first | with_reducible assumption | with_reducible refine Kv9_br ?_ ?_ | with_reducible refine Kv9_bnd ?_ (fun _ _ _ => ?_) | with_reducible refine Kv9_ck ?_ | with_reducible refine Kv9_ltm ?_ (fun _ _ => ?_) | with_reducible refine Kv9_some ?_ | with_reducible refine Kv9_bo (fun _ => ?_) | with_reducible refine Kv9_T ?_ (fun _ _ _ => ?_) | with_reducible refine Kv9_H ?_ (fun _ _ _ => ?_) (fun _ _ => ?_) | with_reducible exact yv9_fb_M_reduce_254 (by assumption) (by first | decide | assumption) hG0 | with_reducible exact yv9_fb_M_reduce_121 (by assumption) hG0 | with_reducible exact yv9_fb_M_reduce_255 (by assumption) hG0 | with_reducible exact yv9_fm_M_unbind (by assumption) | with_reducible exact yv9_fm_M_node (by assumption) | with_reducible exact hG0 _ _ _ _ _ (by assumption) | with_reducible refine Kv9_ltv (fun _ => ?_) | with_reducible refine Kv9_I ?_ (by decide) | with_reducible refine Kv9_A ?_ trivial | with_reducible refine Kv9_J ?_ | with_reducible refine Kv9_L ?_ | with_reducible refine Kv9_I ?_ trivial)
theorem yv9_fb_M_reduce_60 {G : (MS → Int32 → Int32 → Int32 → Int32 → Option (MS × Int32))} {v1 : Int32} {v2 : Int32} {v4 : Int32} {v6 : Int32} (h : Kv9c u0 u) (hG0 : ∀ (u : MS) a0 a1 a2 a3, Kv9c u0 u → Kv9E u0 (G u a0 a1 a2 a3)) : Kv9E u0 (fb_M_reduce_60 N G u v1 v2 v4 v6) := by
  unfold fb_M_reduce_60
  repeat' (first | with_reducible assumption | with_reducible refine Kv9_br ?_ ?_ | with_reducible refine Kv9_bnd ?_ (fun _ _ _ => ?_) | with_reducible refine Kv9_ck ?_ | with_reducible refine Kv9_ltm ?_ (fun _ _ => ?_) | with_reducible refine Kv9_some ?_ | with_reducible refine Kv9_bo (fun _ => ?_) | with_reducible refine Kv9_T ?_ (fun _ _ _ => ?_) | with_reducible refine Kv9_H ?_ (fun _ _ _ => ?_) (fun _ _ => ?_) | with_reducible exact yv9_fb_M_reduce_61 (by assumption) hG0 | with_reducible exact hG0 _ _ _ _ _ (by assumption) | with_reducible refine Kv9_ltv (fun _ => ?_) | with_reducible refine Kv9_I ?_ (by decide) | with_reducible refine Kv9_A ?_ trivial | with_reducible refine Kv9_J ?_ | with_reducible refine Kv9_L ?_ | with_reducible refine Kv9_I ?_ trivial)
theorem yv9_fb_M_reduce_56 {G : (MS → Int32 → Int32 → Int32 → Int32 → Option (MS × Int32))} {v1 : Int32} {v2 : Int32} {v4 : Int32} {v6 : Int32} (h : Kv9c u0 u) (hG0 : ∀ (u : MS) a0 a1 a2 a3, Kv9c u0 u → Kv9E u0 (G u a0 a1 a2 a3)) : Kv9E u0 (fb_M_reduce_56 N G u v1 v2 v4 v6) := by
  unfold fb_M_reduce_56
  repeat' (first | with_reducible assumption | with_reducible refine Kv9_br ?_ ?_ | with_reducible refine Kv9_bnd ?_ (fun _ _ _ => ?_) | with_reducible refine Kv9_ck ?_ | with_reducible refine Kv9_ltm ?_ (fun _ _ => ?_) | with_reducible refine Kv9_some ?_ | with_reducible refine Kv9_bo (fun _ => ?_) | with_reducible refine Kv9_T ?_ (fun _ _ _ => ?_) | with_reducible refine Kv9_H ?_ (fun _ _ _ => ?_) (fun _ _ => ?_) | with_reducible exact yv9_fb_M_reduce_61 (by assumption) hG0 | with_reducible exact hG0 _ _ _ _ _ (by assumption) | with_reducible refine Kv9_ltv (fun _ => ?_) | with_reducible refine Kv9_I ?_ (by decide) | with_reducible refine Kv9_A ?_ trivial | with_reducible refine Kv9_J ?_ | with_reducible refine Kv9_L ?_ | with_reducible refine Kv9_I ?_ trivial)
theorem yv9_fb_M_reduce_6 {G : (MS → Int32 → Int32 → Int32 → Int32 → Option (MS × Int32))} {v1 : Int32} {v2 : Int32} {v4 : Int32} {v5 : Int32} (h : Kv9c u0 u) (hG0 : ∀ (u : MS) a0 a1 a2 a3, Kv9c u0 u → Kv9E u0 (G u a0 a1 a2 a3)) : Kv9E u0 (fb_M_reduce_6 N G u v1 v2 v4 v5) := by
  unfold fb_M_reduce_6
  repeat' (first | with_reducible assumption | with_reducible refine Kv9_br ?_ ?_ | with_reducible refine Kv9_bnd ?_ (fun _ _ _ => ?_) | with_reducible refine Kv9_ck ?_ | with_reducible refine Kv9_ltm ?_ (fun _ _ => ?_) | with_reducible refine Kv9_some ?_ | with_reducible refine Kv9_bo (fun _ => ?_) | with_reducible refine Kv9_T ?_ (fun _ _ _ => ?_) | with_reducible refine Kv9_H ?_ (fun _ _ _ => ?_) (fun _ _ => ?_) | with_reducible exact yv9_fb_M_reduce_258 (by assumption) hG0 | with_reducible exact yv9_fb_M_reduce_56 (by assumption) hG0 | with_reducible exact yv9_fb_M_reduce_60 (by assumption) hG0 | with_reducible exact hG0 _ _ _ _ _ (by assumption) | with_reducible refine Kv9_ltv (fun _ => ?_) | with_reducible refine Kv9_I ?_ (by decide) | with_reducible refine Kv9_A ?_ trivial | with_reducible refine Kv9_J ?_ | with_reducible refine Kv9_L ?_ | with_reducible refine Kv9_I ?_ trivial)
theorem yv9_fb_M_reduce_0 {G : (MS → Int32 → Int32 → Int32 → Int32 → Option (MS × Int32))} {v1 : Int32} {v2 : Int32} {v3 : Int32} (h : Kv9c u0 u) (hG0 : ∀ (u : MS) a0 a1 a2 a3, Kv9c u0 u → Kv9E u0 (G u a0 a1 a2 a3)) : Kv9E u0 (fb_M_reduce_0 N G u v1 v2 v3) := by
  unfold fb_M_reduce_0
  repeat' (first | with_reducible assumption | with_reducible refine Kv9_br ?_ ?_ | with_reducible refine Kv9_bnd ?_ (fun _ _ _ => ?_) | with_reducible refine Kv9_ck ?_ | with_reducible refine Kv9_ltm ?_ (fun _ _ => ?_) | with_reducible refine Kv9_some ?_ | with_reducible refine Kv9_bo (fun _ => ?_) | with_reducible refine Kv9_T ?_ (fun _ _ _ => ?_) | with_reducible refine Kv9_H ?_ (fun _ _ _ => ?_) (fun _ _ => ?_) | with_reducible exact hG0 _ _ _ _ _ (by assumption) | with_reducible refine Kv9_ltv (fun _ => ?_) | with_reducible refine Kv9_I ?_ (by decide) | with_reducible refine Kv9_A ?_ trivial | with_reducible refine Kv9_J ?_ | with_reducible refine Kv9_L ?_ | with_reducible refine Kv9_I ?_ trivial)
theorem yv9_gg_M_reduce  (n : Nat) : (∀ (u : MS) a0 a1 a2 a3, Kv9c u0 u → Kv9E u0 ((gg_M_reduce N n) u a0 a1 a2 a3)) := by
  induction n with
  | zero => exact fun _ _ _ _ _ _ => Kv9_none
  | succ n ih => exact fun _ _ _ _ _ h => yv9_fb_M_reduce_6 (N := N) h ih
theorem yv9_fm_M_reduce {v1 : Int32} {v2 : Int32} {v3 : Int32} (h : Kv9c u0 u)  : Kv9E u0 (fm_M_reduce N u v1 v2 v3) := by
  unfold fm_M_reduce
  exact yv9_fb_M_reduce_0 h ((yv9_gg_M_reduce N))
theorem yv9_fb_M_takeBack_115 {G : (MS → Int32 → Option (MS × Unit))} {v2 : Int32} (h : Kv9c u0 u) (hG0 : ∀ (u : MS) a0, Kv9c u0 u → Kv9E u0 (G u a0)) : Kv9E u0 (fb_M_takeBack_115 N G u v2) := by
  unfold fb_M_takeBack_115
  repeat' (first | with_reducible assumption | with_reducible refine Kv9_br ?_ ?_ | with_reducible refine Kv9_bnd ?_ (fun _ _ _ => ?_) | with_reducible refine Kv9_ck ?_ | with_reducible refine Kv9_ltm ?_ (fun _ _ => ?_) | with_reducible refine Kv9_some ?_ | with_reducible refine Kv9_bo (fun _ => ?_) | with_reducible refine Kv9_T ?_ (fun _ _ _ => ?_) | with_reducible refine Kv9_H ?_ (fun _ _ _ => ?_) (fun _ _ => ?_) | with_reducible exact hG0 _ _ (by assumption) | with_reducible refine Kv9_ltv (fun _ => ?_) | with_reducible refine Kv9_I ?_ (by decide) | with_reducible refine Kv9_A ?_ trivial | with_reducible refine Kv9_J ?_ | with_reducible refine Kv9_L ?_ | with_reducible refine Kv9_I ?_ trivial)
theorem yv9_fb_M_takeBack_110 {G : (MS → Int32 → Option (MS × Unit))} {t1 : Int32} (h : Kv9c u0 u) (hG0 : ∀ (u : MS) a0, Kv9c u0 u → Kv9E u0 (G u a0)) : Kv9E u0 (fb_M_takeBack_110 N G u t1) := by
  unfold fb_M_takeBack_110
  repeat' (first | with_reducible assumption | with_reducible refine Kv9_br ?_ ?_ | with_reducible refine Kv9_bnd ?_ (fun _ _ _ => ?_) | with_reducible refine Kv9_ck ?_ | with_reducible refine Kv9_ltm ?_ (fun _ _ => ?_) | with_reducible refine Kv9_some ?_ | with_reducible refine Kv9_bo (fun _ => ?_) | with_reducible refine Kv9_T ?_ (fun _ _ _ => ?_) | with_reducible refine Kv9_H ?_ (fun _ _ _ => ?_) (fun _ _ => ?_) | with_reducible exact hG0 _ _ (by assumption) | with_reducible refine Kv9_ltv (fun _ => ?_) | with_reducible refine Kv9_I ?_ (by decide) | with_reducible refine Kv9_A ?_ trivial | with_reducible refine Kv9_J ?_ | with_reducible refine Kv9_L ?_ | with_reducible refine Kv9_I ?_ trivial)
theorem yv9_fb_M_takeBack_0 {G : (MS → Int32 → Option (MS × Unit))} (h : Kv9c u0 u) (hG0 : ∀ (u : MS) a0, Kv9c u0 u → Kv9E u0 (G u a0)) : Kv9E u0 (fb_M_takeBack_0 N G u) := by
  unfold fb_M_takeBack_0
  repeat' (first | with_reducible assumption | with_reducible refine Kv9_br ?_ ?_ | with_reducible refine Kv9_bnd ?_ (fun _ _ _ => ?_) | with_reducible refine Kv9_ck ?_ | with_reducible refine Kv9_ltm ?_ (fun _ _ => ?_) | with_reducible refine Kv9_some ?_ | with_reducible refine Kv9_bo (fun _ => ?_) | with_reducible refine Kv9_T ?_ (fun _ _ _ => ?_) | with_reducible refine Kv9_H ?_ (fun _ _ _ => ?_) (fun _ _ => ?_) | with_reducible exact yv9_fb_M_takeBack_110 (by assumption) hG0 | with_reducible exact hG0 _ _ (by assumption) | with_reducible refine Kv9_ltv (fun _ => ?_) | with_reducible refine Kv9_I ?_ (by decide) | with_reducible refine Kv9_A ?_ trivial | with_reducible refine Kv9_J ?_ | with_reducible refine Kv9_L ?_ | with_reducible refine Kv9_I ?_ trivial)
theorem yv9_gg_M_takeBack  (n : Nat) : (∀ (u : MS) a0, Kv9c u0 u → Kv9E u0 ((gg_M_takeBack N n) u a0)) := by
  induction n with
  | zero => exact fun _ _ _ => Kv9_none
  | succ n ih => exact fun _ _ h => yv9_fb_M_takeBack_115 (N := N) h ih
theorem yv9_fm_M_takeBack  (h : Kv9c u0 u)  : Kv9E u0 (fm_M_takeBack N u) := by
  unfold fm_M_takeBack
  exact yv9_fb_M_takeBack_0 h ((yv9_gg_M_takeBack N))
theorem yv9_fb_M_forgetSaved_0 {G : Unit} (h : Kv9c u0 u)  : Kv9E u0 (fb_M_forgetSaved_0 N G u) := by
  unfold fb_M_forgetSaved_0
  repeat' (first | with_reducible assumption | with_reducible refine Kv9_br ?_ ?_ | with_reducible refine Kv9_bnd ?_ (fun _ _ _ => ?_) | with_reducible refine Kv9_ck ?_ | with_reducible refine Kv9_ltm ?_ (fun _ _ => ?_) | with_reducible refine Kv9_some ?_ | with_reducible refine Kv9_bo (fun _ => ?_) | with_reducible refine Kv9_T ?_ (fun _ _ _ => ?_) | with_reducible refine Kv9_H ?_ (fun _ _ _ => ?_) (fun _ _ => ?_) | with_reducible refine Kv9_ltv (fun _ => ?_) | with_reducible refine Kv9_I ?_ (by decide) | with_reducible refine Kv9_A ?_ trivial | with_reducible refine Kv9_J ?_ | with_reducible refine Kv9_L ?_ | with_reducible refine Kv9_I ?_ trivial)
theorem yv9_fm_M_forgetSaved  (h : Kv9c u0 u)  : Kv9E u0 (fm_M_forgetSaved N u) := by
  unfold fm_M_forgetSaved
  exact yv9_fb_M_forgetSaved_0 h
theorem yv9_fb_M_last_42 {S : SG_M_last} {G : (MS → Int32 → Option (MS × Unit))} {v2 : Int32} (h : Kv9c u0 u) (hS0 : ∀ (u : MS) a0, Kv9c u0 u → Kv9E u0 (S u a0)) (hG0 : ∀ (u : MS) a0, Kv9c u0 u → Kv9E u0 (G u a0)) : Kv9E u0 (fb_M_last_42 N S G u v2) := by
  unfold fb_M_last_42
  repeat' (first | with_reducible assumption | with_reducible refine Kv9_br ?_ ?_ | with_reducible refine Kv9_bnd ?_ (fun _ _ _ => ?_) | with_reducible refine Kv9_ck ?_ | with_reducible refine Kv9_ltm ?_ (fun _ _ => ?_) | with_reducible refine Kv9_some ?_ | with_reducible refine Kv9_bo (fun _ => ?_) | with_reducible refine Kv9_T ?_ (fun _ _ _ => ?_) | with_reducible refine Kv9_H ?_ (fun _ _ _ => ?_) (fun _ _ => ?_) | with_reducible exact hS0 _ _ (by assumption) | with_reducible exact hG0 _ _ (by assumption) | with_reducible refine Kv9_ltv (fun _ => ?_) | with_reducible refine Kv9_I ?_ (by decide) | with_reducible refine Kv9_A ?_ trivial | with_reducible refine Kv9_J ?_ | with_reducible refine Kv9_L ?_ | with_reducible refine Kv9_I ?_ trivial)
theorem yv9_fb_M_last_35 {S : SG_M_last} {G : (MS → Int32 → Option (MS × Unit))} {v1 : Int32} (h : Kv9c u0 u) (hS0 : ∀ (u : MS) a0, Kv9c u0 u → Kv9E u0 (S u a0)) (hG0 : ∀ (u : MS) a0, Kv9c u0 u → Kv9E u0 (G u a0)) : Kv9E u0 (fb_M_last_35 N S G u v1) := by
  unfold fb_M_last_35
  repeat' (first | with_reducible assumption | with_reducible refine Kv9_br ?_ ?_ | with_reducible refine Kv9_bnd ?_ (fun _ _ _ => ?_) | with_reducible refine Kv9_ck ?_ | with_reducible refine Kv9_ltm ?_ (fun _ _ => ?_) | with_reducible refine Kv9_some ?_ | with_reducible refine Kv9_bo (fun _ => ?_) | with_reducible refine Kv9_T ?_ (fun _ _ _ => ?_) | with_reducible refine Kv9_H ?_ (fun _ _ _ => ?_) (fun _ _ => ?_) | with_reducible exact hS0 _ _ (by assumption) | with_reducible exact hG0 _ _ (by assumption) | with_reducible refine Kv9_ltv (fun _ => ?_) | with_reducible refine Kv9_I ?_ (by decide) | with_reducible refine Kv9_A ?_ trivial | with_reducible refine Kv9_J ?_ | with_reducible refine Kv9_L ?_ | with_reducible refine Kv9_I ?_ trivial)
theorem yv9_fb_M_last_28 {S : SG_M_last} {G : (MS → Int32 → Option (MS × Unit))} {v1 : Int32} (h : Kv9c u0 u) (hS0 : ∀ (u : MS) a0, Kv9c u0 u → Kv9E u0 (S u a0)) (hG0 : ∀ (u : MS) a0, Kv9c u0 u → Kv9E u0 (G u a0)) : Kv9E u0 (fb_M_last_28 N S G u v1) := by
  unfold fb_M_last_28
  repeat' (first | with_reducible assumption | with_reducible refine Kv9_br ?_ ?_ | with_reducible refine Kv9_bnd ?_ (fun _ _ _ => ?_) | with_reducible refine Kv9_ck ?_ | with_reducible refine Kv9_ltm ?_ (fun _ _ => ?_) | with_reducible refine Kv9_some ?_ | with_reducible refine Kv9_bo (fun _ => ?_) | with_reducible refine Kv9_T ?_ (fun _ _ _ => ?_) | with_reducible refine Kv9_H ?_ (fun _ _ _ => ?_) (fun _ _ => ?_) | with_reducible exact yv9_fb_M_last_35 (by assumption) hS0 hG0 | with_reducible exact hS0 _ _ (by assumption) | with_reducible exact hG0 _ _ (by assumption) | with_reducible refine Kv9_ltv (fun _ => ?_) | with_reducible refine Kv9_I ?_ (by decide) | with_reducible refine Kv9_A ?_ trivial | with_reducible refine Kv9_J ?_ | with_reducible refine Kv9_L ?_ | with_reducible refine Kv9_I ?_ trivial)
theorem yv9_fb_M_last_0 {S : SG_M_last} {G : (MS → Int32 → Option (MS × Unit))} {v1 : Int32} (h : Kv9c u0 u) (hS0 : ∀ (u : MS) a0, Kv9c u0 u → Kv9E u0 (S u a0)) (hG0 : ∀ (u : MS) a0, Kv9c u0 u → Kv9E u0 (G u a0)) : Kv9E u0 (fb_M_last_0 N S G u v1) := by
  unfold fb_M_last_0
  repeat' (first | with_reducible assumption | with_reducible refine Kv9_br ?_ ?_ | with_reducible refine Kv9_bnd ?_ (fun _ _ _ => ?_) | with_reducible refine Kv9_ck ?_ | with_reducible refine Kv9_ltm ?_ (fun _ _ => ?_) | with_reducible refine Kv9_some ?_ | with_reducible refine Kv9_bo (fun _ => ?_) | with_reducible refine Kv9_T ?_ (fun _ _ _ => ?_) | with_reducible refine Kv9_H ?_ (fun _ _ _ => ?_) (fun _ _ => ?_) | with_reducible exact yv9_fb_M_last_28 (by assumption) hS0 hG0 | with_reducible exact yv9_fb_M_last_35 (by assumption) hS0 hG0 | with_reducible exact hS0 _ _ (by assumption) | with_reducible exact hG0 _ _ (by assumption) | with_reducible refine Kv9_ltv (fun _ => ?_) | with_reducible refine Kv9_I ?_ (by decide) | with_reducible refine Kv9_A ?_ trivial | with_reducible refine Kv9_J ?_ | with_reducible refine Kv9_L ?_ | with_reducible refine Kv9_I ?_ trivial)
theorem yv9_gg_M_last {S : SG_M_last} (hS0 : ∀ (u : MS) a0, Kv9c u0 u → Kv9E u0 (S u a0)) (n : Nat) : (∀ (u : MS) a0, Kv9c u0 u → Kv9E u0 ((gg_M_last N S n) u a0)) := by
  induction n with
  | zero => exact fun _ _ _ => Kv9_none
  | succ n ih => exact fun _ _ h => yv9_fb_M_last_42 (N := N) h hS0 ih
theorem yv9_fm_M_last {S : SG_M_last} {v1 : Int32} (h : Kv9c u0 u) (hS0 : ∀ (u : MS) a0, Kv9c u0 u → Kv9E u0 (S u a0)) : Kv9E u0 (fm_M_last N S u v1) := by
  unfold fm_M_last
  exact yv9_fb_M_last_0 h hS0 ((yv9_gg_M_last (N := N) hS0 N))
theorem yv9_rc_M_last  (n : Nat) : (∀ (u : MS) a0, Kv9c u0 u → Kv9E u0 ((rc_M_last N n) u a0)) := by
  induction n with
  | zero => exact fun _ _ _ => Kv9_none
  | succ n ih => exact fun _ _ h => yv9_fm_M_last (N := N) h ih
theorem yv9_fr_M_last {v1 : Int32} (h : Kv9c u0 u) : Kv9E u0 (fr_M_last N u v1) := by
  unfold fr_M_last
  exact (yv9_rc_M_last (N := N) 60) _ _ h
end
