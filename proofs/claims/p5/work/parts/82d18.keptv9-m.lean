section
set_option maxRecDepth 100000
def Kv9c (u w : MS) : Prop := w.2.2.2 = u.2.2.2 ∧ w.2.1 = u.2.1
def Kv9E {α : Type} (u : MS) (o : Option (MS × α)) : Prop := ∀ w r, o = some (w, r) → Kv9c u w
section
variable {α β : Type} {u0 u w : MS} {k : Nat}
theorem Kv9_none : Kv9E u0 (none : Option (MS × α)) := fun _ _ e => by cases e
theorem Kv9_some {r : α} (h : Kv9c u0 w) : Kv9E u0 (some (w, r)) := fun _ _ e => by injection e with e; injection e with e1 _; exact e1 ▸ h
theorem Kv9_br {b : Bool} {p q : Option (MS × α)} (h1 : Kv9E u0 p) (h2 : Kv9E u0 q) : Kv9E u0 (br b p q) := by cases b <;> assumption
theorem Kv9_ck {b : Bool} {p : Option (MS × α)} (h1 : Kv9E u0 p) : Kv9E u0 (ck b p) := by
  cases b
  · exact Kv9_none
  · exact h1
theorem Kv9_bo {o : Option β} {f : β → Option (MS × α)} (h : ∀ j, Kv9E u0 (f j)) : Kv9E u0 (bo o f) := by
  cases o with
  | none => exact Kv9_none
  | some j => exact h j
theorem Kv9_bnd {o : Option (MS × β)} {f : MS → β → Option (MS × α)} (h1 : Kv9E u0 o) (h2 : ∀ w r, Kv9c u0 w → Kv9E u0 (f w r)) : Kv9E u0 (bnd o f) := by
  cases o with
  | none => exact Kv9_none
  | some x => exact h2 x.1 x.2 (h1 x.1 x.2 rfl)
theorem Kv9_T {o : Option (MS × (β ⊕ Nat))} {f : MS → β → Option (MS × (α ⊕ Nat))} (h1 : Kv9E u0 o) (h2 : ∀ w r, Kv9c u0 w → Kv9E u0 (f w r)) : Kv9E u0 (bTm o f) := by
  cases o with
  | none => exact Kv9_none
  | some x =>
    obtain ⟨x, z⟩ := x
    cases z with
    | inl v => exact h2 x v (h1 x _ rfl)
    | inr k => exact Kv9_some (h1 x _ rfl)
theorem Kv9_H {o : Option (MS × (β ⊕ Nat))} {f : MS → β → Option (MS × α)} {g : MS → Option (MS × α)} (h1 : Kv9E u0 o) (h2 : ∀ w r, Kv9c u0 w → Kv9E u0 (f w r)) (h3 : ∀ w, Kv9c u0 w → Kv9E u0 (g w)) : Kv9E u0 (bHm o f g) := by
  cases o with
  | none => exact Kv9_none
  | some x =>
    obtain ⟨x, z⟩ := x
    cases z with
    | inl v => exact h2 x v (h1 x _ rfl)
    | inr k =>
      show Kv9E u0 (if k = 3 then g x else none)
      split
      · exact h3 x (h1 x _ rfl)
      · exact Kv9_none
theorem Kv9_ltm {x : MS} {f : MS → Option (MS × α)} (h1 : Kv9c u0 x) (h2 : ∀ w, Kv9c u0 w → Kv9E u0 (f w)) : Kv9E u0 (lt x f) := h2 x h1
theorem Kv9_ltv {x : β} {f : β → Option (MS × α)} (h2 : ∀ y, Kv9E u0 (f y)) : Kv9E u0 (lt x f) := h2 x
theorem Kv9_I {v : Int32} (h : Kv9c u0 u) (hk : True) : Kv9c u0 (upI u k v) := h
theorem Kv9_L {v : Int64} (h : False) : Kv9c u0 (upL u k v) := h.elim
theorem Kv9_J {v : Nat → Int64} (h : False) : Kv9c u0 (upJ u k v) := h.elim
theorem Kv9_A {v : Nat → Int32} (h : Kv9c u0 u) (hk : True) : Kv9c u0 (upA u k v) := h
theorem Kv9_rf : Kv9c u u := ⟨rfl, rfl⟩
end
section
variable {u0 u : MS} {N : Nat}
theorem yv9_fb_M_rule_41 {G : Unit} (h : Kv9c u0 u)  : Kv9E u0 (fb_M_rule_41 N G u) := by
  unfold fb_M_rule_41
  repeat' (first | with_reducible assumption | with_reducible refine Kv9_br ?_ ?_ | with_reducible refine Kv9_bnd ?_ (fun _ _ _ => ?_) | with_reducible refine Kv9_ck ?_ | with_reducible refine Kv9_ltm ?_ (fun _ _ => ?_) | with_reducible refine Kv9_some ?_ | with_reducible refine Kv9_bo (fun _ => ?_) | with_reducible refine Kv9_T ?_ (fun _ _ _ => ?_) | with_reducible refine Kv9_H ?_ (fun _ _ _ => ?_) (fun _ _ => ?_) | with_reducible refine Kv9_ltv (fun _ => ?_) | with_reducible refine Kv9_I ?_ (by decide) | with_reducible refine Kv9_A ?_ trivial | with_reducible refine Kv9_J ?_ | with_reducible refine Kv9_L ?_ | with_reducible refine Kv9_I ?_ trivial)
theorem yv9_fb_M_rule_31 {G : Unit} {v1 : Int32} {v2 : Int32} (h : Kv9c u0 u)  : Kv9E u0 (fb_M_rule_31 N G u v1 v2) := by
  unfold fb_M_rule_31
  repeat' (first | with_reducible assumption | with_reducible refine Kv9_br ?_ ?_ | with_reducible refine Kv9_bnd ?_ (fun _ _ _ => ?_) | with_reducible refine Kv9_ck ?_ | with_reducible refine Kv9_ltm ?_ (fun _ _ => ?_) | with_reducible refine Kv9_some ?_ | with_reducible refine Kv9_bo (fun _ => ?_) | with_reducible refine Kv9_T ?_ (fun _ _ _ => ?_) | with_reducible refine Kv9_H ?_ (fun _ _ _ => ?_) (fun _ _ => ?_) | with_reducible exact yv9_fb_M_rule_41 (by assumption) | with_reducible refine Kv9_ltv (fun _ => ?_) | with_reducible refine Kv9_I ?_ (by decide) | with_reducible refine Kv9_A ?_ trivial | with_reducible refine Kv9_J ?_ | with_reducible refine Kv9_L ?_ | with_reducible refine Kv9_I ?_ trivial)
theorem yv9_fb_M_rule_0 {G : Unit} {v1 : Int32} {v2 : Int32} (h : Kv9c u0 u)  : Kv9E u0 (fb_M_rule_0 N G u v1 v2) := by
  unfold fb_M_rule_0
  repeat' (first | with_reducible assumption | with_reducible refine Kv9_br ?_ ?_ | with_reducible refine Kv9_bnd ?_ (fun _ _ _ => ?_) | with_reducible refine Kv9_ck ?_ | with_reducible refine Kv9_ltm ?_ (fun _ _ => ?_) | with_reducible refine Kv9_some ?_ | with_reducible refine Kv9_bo (fun _ => ?_) | with_reducible refine Kv9_T ?_ (fun _ _ _ => ?_) | with_reducible refine Kv9_H ?_ (fun _ _ _ => ?_) (fun _ _ => ?_) | with_reducible exact yv9_fb_M_rule_31 (by assumption) | with_reducible exact yv9_fb_M_rule_41 (by assumption) | with_reducible refine Kv9_ltv (fun _ => ?_) | with_reducible refine Kv9_I ?_ (by decide) | with_reducible refine Kv9_A ?_ trivial | with_reducible refine Kv9_J ?_ | with_reducible refine Kv9_L ?_ | with_reducible refine Kv9_I ?_ trivial)
theorem yv9_fm_M_rule {v1 : Int32} {v2 : Int32} (h : Kv9c u0 u)  : Kv9E u0 (fm_M_rule N u v1 v2) := by
  unfold fm_M_rule
  exact yv9_fb_M_rule_0 h
theorem yv9_fb_M_boundIn_2 {G : (MS → Int32 → Int32 → Int32 → Option (MS × Int32))} {v1 : Int32} {v2 : Int32} {v3 : Int32} (h : Kv9c u0 u) (hG0 : ∀ (u : MS) a0 a1 a2, Kv9c u0 u → Kv9E u0 (G u a0 a1 a2)) : Kv9E u0 (fb_M_boundIn_2 N G u v1 v2 v3) := by
  unfold fb_M_boundIn_2
  repeat' (first | with_reducible assumption | with_reducible refine Kv9_br ?_ ?_ | with_reducible refine Kv9_bnd ?_ (fun _ _ _ => ?_) | with_reducible refine Kv9_ck ?_ | with_reducible refine Kv9_ltm ?_ (fun _ _ => ?_) | with_reducible refine Kv9_some ?_ | with_reducible refine Kv9_bo (fun _ => ?_) | with_reducible refine Kv9_T ?_ (fun _ _ _ => ?_) | with_reducible refine Kv9_H ?_ (fun _ _ _ => ?_) (fun _ _ => ?_) | with_reducible exact hG0 _ _ _ _ (by assumption) | with_reducible refine Kv9_ltv (fun _ => ?_) | with_reducible refine Kv9_I ?_ (by decide) | with_reducible refine Kv9_A ?_ trivial | with_reducible refine Kv9_J ?_ | with_reducible refine Kv9_L ?_ | with_reducible refine Kv9_I ?_ trivial)
theorem yv9_fb_M_boundIn_0 {G : (MS → Int32 → Int32 → Int32 → Option (MS × Int32))} {v1 : Int32} {v2 : Int32} (h : Kv9c u0 u) (hG0 : ∀ (u : MS) a0 a1 a2, Kv9c u0 u → Kv9E u0 (G u a0 a1 a2)) : Kv9E u0 (fb_M_boundIn_0 N G u v1 v2) := by
  unfold fb_M_boundIn_0
  repeat' (first | with_reducible assumption | with_reducible refine Kv9_br ?_ ?_ | with_reducible refine Kv9_bnd ?_ (fun _ _ _ => ?_) | with_reducible refine Kv9_ck ?_ | with_reducible refine Kv9_ltm ?_ (fun _ _ => ?_) | with_reducible refine Kv9_some ?_ | with_reducible refine Kv9_bo (fun _ => ?_) | with_reducible refine Kv9_T ?_ (fun _ _ _ => ?_) | with_reducible refine Kv9_H ?_ (fun _ _ _ => ?_) (fun _ _ => ?_) | with_reducible exact hG0 _ _ _ _ (by assumption) | with_reducible refine Kv9_ltv (fun _ => ?_) | with_reducible refine Kv9_I ?_ (by decide) | with_reducible refine Kv9_A ?_ trivial | with_reducible refine Kv9_J ?_ | with_reducible refine Kv9_L ?_ | with_reducible refine Kv9_I ?_ trivial)
theorem yv9_gg_M_boundIn  (n : Nat) : (∀ (u : MS) a0 a1 a2, Kv9c u0 u → Kv9E u0 ((gg_M_boundIn N n) u a0 a1 a2)) := by
  induction n with
  | zero => exact fun _ _ _ _ _ => Kv9_none
  | succ n ih => exact fun _ _ _ _ h => yv9_fb_M_boundIn_2 (N := N) h ih
theorem yv9_fm_M_boundIn {v1 : Int32} {v2 : Int32} (h : Kv9c u0 u)  : Kv9E u0 (fm_M_boundIn N u v1 v2) := by
  unfold fm_M_boundIn
  exact yv9_fb_M_boundIn_0 h ((yv9_gg_M_boundIn N))
theorem yv9_fb_M_found_17 {S : SG_M_found} {G : (MS → Int32 → Int32 → Int32 → Option (MS × Int32))} {v1 : Int32} {v2 : Int32} {v4 : Int32} (h : Kv9c u0 u) (hS0 : ∀ (u : MS) a0 a1, Kv9c u0 u → Kv9E u0 (S u a0 a1)) (hG0 : ∀ (u : MS) a0 a1 a2, Kv9c u0 u → Kv9E u0 (G u a0 a1 a2)) : Kv9E u0 (fb_M_found_17 N S G u v1 v2 v4) := by
  unfold fb_M_found_17
  repeat' (first | with_reducible assumption | with_reducible refine Kv9_br ?_ ?_ | with_reducible refine Kv9_bnd ?_ (fun _ _ _ => ?_) | with_reducible refine Kv9_ck ?_ | with_reducible refine Kv9_ltm ?_ (fun _ _ => ?_) | with_reducible refine Kv9_some ?_ | with_reducible refine Kv9_bo (fun _ => ?_) | with_reducible refine Kv9_T ?_ (fun _ _ _ => ?_) | with_reducible refine Kv9_H ?_ (fun _ _ _ => ?_) (fun _ _ => ?_) | with_reducible exact hS0 _ _ _ (by assumption) | with_reducible exact hG0 _ _ _ _ (by assumption) | with_reducible refine Kv9_ltv (fun _ => ?_) | with_reducible refine Kv9_I ?_ (by decide) | with_reducible refine Kv9_A ?_ trivial | with_reducible refine Kv9_J ?_ | with_reducible refine Kv9_L ?_ | with_reducible refine Kv9_I ?_ trivial)
theorem yv9_fb_M_found_0 {S : SG_M_found} {G : (MS → Int32 → Int32 → Int32 → Option (MS × Int32))} {v1 : Int32} {v2 : Int32} (h : Kv9c u0 u) (hS0 : ∀ (u : MS) a0 a1, Kv9c u0 u → Kv9E u0 (S u a0 a1)) (hG0 : ∀ (u : MS) a0 a1 a2, Kv9c u0 u → Kv9E u0 (G u a0 a1 a2)) : Kv9E u0 (fb_M_found_0 N S G u v1 v2) := by
  unfold fb_M_found_0
  repeat' (first | with_reducible assumption | with_reducible refine Kv9_br ?_ ?_ | with_reducible refine Kv9_bnd ?_ (fun _ _ _ => ?_) | with_reducible refine Kv9_ck ?_ | with_reducible refine Kv9_ltm ?_ (fun _ _ => ?_) | with_reducible refine Kv9_some ?_ | with_reducible refine Kv9_bo (fun _ => ?_) | with_reducible refine Kv9_T ?_ (fun _ _ _ => ?_) | with_reducible refine Kv9_H ?_ (fun _ _ _ => ?_) (fun _ _ => ?_) | with_reducible exact yv9_fm_M_boundIn (by assumption) | with_reducible exact hS0 _ _ _ (by assumption) | with_reducible exact hG0 _ _ _ _ (by assumption) | with_reducible refine Kv9_ltv (fun _ => ?_) | with_reducible refine Kv9_I ?_ (by decide) | with_reducible refine Kv9_A ?_ trivial | with_reducible refine Kv9_J ?_ | with_reducible refine Kv9_L ?_ | with_reducible refine Kv9_I ?_ trivial)
theorem yv9_gg_M_found {S : SG_M_found} (hS0 : ∀ (u : MS) a0 a1, Kv9c u0 u → Kv9E u0 (S u a0 a1)) (n : Nat) : (∀ (u : MS) a0 a1 a2, Kv9c u0 u → Kv9E u0 ((gg_M_found N S n) u a0 a1 a2)) := by
  induction n with
  | zero => exact fun _ _ _ _ _ => Kv9_none
  | succ n ih => exact fun _ _ _ _ h => yv9_fb_M_found_17 (N := N) h hS0 ih
theorem yv9_fm_M_found {S : SG_M_found} {v1 : Int32} {v2 : Int32} (h : Kv9c u0 u) (hS0 : ∀ (u : MS) a0 a1, Kv9c u0 u → Kv9E u0 (S u a0 a1)) : Kv9E u0 (fm_M_found N S u v1 v2) := by
  unfold fm_M_found
  exact yv9_fb_M_found_0 h hS0 ((yv9_gg_M_found (N := N) hS0 N))
theorem yv9_rc_M_found  (n : Nat) : (∀ (u : MS) a0 a1, Kv9c u0 u → Kv9E u0 ((rc_M_found N n) u a0 a1)) := by
  induction n with
  | zero => exact fun _ _ _ _ => Kv9_none
  | succ n ih => exact fun _ _ _ h => yv9_fm_M_found (N := N) h ih
theorem yv9_fr_M_found {v1 : Int32} {v2 : Int32} (h : Kv9c u0 u) : Kv9E u0 (fr_M_found N u v1 v2) := by
  unfold fr_M_found
  exact (yv9_rc_M_found (N := N) 30) _ _ _ h
theorem yv9_fb_M_bind_107 {G : Unit} (h : Kv9c u0 u)  : Kv9E u0 (fb_M_bind_107 N G u) := by
  unfold fb_M_bind_107
  repeat' (first | with_reducible assumption | with_reducible refine Kv9_br ?_ ?_ | with_reducible refine Kv9_bnd ?_ (fun _ _ _ => ?_) | with_reducible refine Kv9_ck ?_ | with_reducible refine Kv9_ltm ?_ (fun _ _ => ?_) | with_reducible refine Kv9_some ?_ | with_reducible refine Kv9_bo (fun _ => ?_) | with_reducible refine Kv9_T ?_ (fun _ _ _ => ?_) | with_reducible refine Kv9_H ?_ (fun _ _ _ => ?_) (fun _ _ => ?_) | with_reducible refine Kv9_ltv (fun _ => ?_) | with_reducible refine Kv9_I ?_ (by decide) | with_reducible refine Kv9_A ?_ trivial | with_reducible refine Kv9_J ?_ | with_reducible refine Kv9_L ?_ | with_reducible refine Kv9_I ?_ trivial)
theorem yv9_fb_M_bind_87 {G : Unit} {t0 : Nat} {t1 : Int32} {t2 : Int32} (h : Kv9c u0 u) (hn0 : t0 = t0) : Kv9E u0 (fb_M_bind_87 N G u t0 t1 t2) := by
  unfold fb_M_bind_87
  repeat' (first | with_reducible assumption | with_reducible refine Kv9_A ?_ hn0 | with_reducible refine Kv9_br ?_ ?_ | with_reducible refine Kv9_bnd ?_ (fun _ _ _ => ?_) | with_reducible refine Kv9_ck ?_ | with_reducible refine Kv9_ltm ?_ (fun _ _ => ?_) | with_reducible refine Kv9_some ?_ | with_reducible refine Kv9_bo (fun _ => ?_) | with_reducible refine Kv9_T ?_ (fun _ _ _ => ?_) | with_reducible refine Kv9_H ?_ (fun _ _ _ => ?_) (fun _ _ => ?_) | with_reducible exact yv9_fb_M_bind_107 (by assumption) | with_reducible refine Kv9_ltv (fun _ => ?_) | with_reducible refine Kv9_I ?_ (by decide) | with_reducible refine Kv9_A ?_ trivial | with_reducible refine Kv9_J ?_ | with_reducible refine Kv9_L ?_ | with_reducible refine Kv9_I ?_ trivial)
theorem yv9_fb_M_bind_0 {G : Unit} {v1 : Int32} (h : Kv9c u0 u)  : Kv9E u0 (fb_M_bind_0 N G u v1) := by
  unfold fb_M_bind_0
  repeat' (first | with_reducible assumption | with_reducible refine Kv9_br ?_ ?_ | with_reducible refine Kv9_bnd ?_ (fun _ _ _ => ?_) | with_reducible refine Kv9_ck ?_ | with_reducible refine Kv9_ltm ?_ (fun _ _ => ?_) | with_reducible refine Kv9_some ?_ | with_reducible refine Kv9_bo (fun _ => ?_) | with_reducible refine Kv9_T ?_ (fun _ _ _ => ?_) | with_reducible refine Kv9_H ?_ (fun _ _ _ => ?_) (fun _ _ => ?_) | with_reducible exact yv9_fb_M_bind_87 (by assumption) (by first | decide | assumption) | with_reducible refine Kv9_ltv (fun _ => ?_) | with_reducible refine Kv9_I ?_ (by decide) | with_reducible refine Kv9_A ?_ trivial | with_reducible refine Kv9_J ?_ | with_reducible refine Kv9_L ?_ | with_reducible refine Kv9_I ?_ trivial)
theorem yv9_fm_M_bind {v1 : Int32} (h : Kv9c u0 u)  : Kv9E u0 (fm_M_bind N u v1) := by
  unfold fm_M_bind
  exact yv9_fb_M_bind_0 h
theorem yv9_fb_M_save_141 {G : (MS → Int32 → Option (MS × Unit))} {v1 : Int32} (h : Kv9c u0 u) (hG0 : ∀ (u : MS) a0, Kv9c u0 u → Kv9E u0 (G u a0)) : Kv9E u0 (fb_M_save_141 N G u v1) := by
  unfold fb_M_save_141
  repeat' (first | with_reducible assumption | with_reducible refine Kv9_br ?_ ?_ | with_reducible refine Kv9_bnd ?_ (fun _ _ _ => ?_) | with_reducible refine Kv9_ck ?_ | with_reducible refine Kv9_ltm ?_ (fun _ _ => ?_) | with_reducible refine Kv9_some ?_ | with_reducible refine Kv9_bo (fun _ => ?_) | with_reducible refine Kv9_T ?_ (fun _ _ _ => ?_) | with_reducible refine Kv9_H ?_ (fun _ _ _ => ?_) (fun _ _ => ?_) | with_reducible exact hG0 _ _ (by assumption) | with_reducible refine Kv9_ltv (fun _ => ?_) | with_reducible refine Kv9_I ?_ (by decide) | with_reducible refine Kv9_A ?_ trivial | with_reducible refine Kv9_J ?_ | with_reducible refine Kv9_L ?_ | with_reducible refine Kv9_I ?_ trivial)
theorem yv9_fb_M_save_127 {G : (MS → Int32 → Option (MS × Unit))} {t0 : Nat} {t1 : Int32} {t2 : Int32} (h : Kv9c u0 u) (hn0 : t0 = t0) (hG0 : ∀ (u : MS) a0, Kv9c u0 u → Kv9E u0 (G u a0)) : Kv9E u0 (fb_M_save_127 N G u t0 t1 t2) := by
  unfold fb_M_save_127
  repeat' (first | with_reducible assumption | with_reducible refine Kv9_A ?_ hn0 | with_reducible refine Kv9_br ?_ ?_ | with_reducible refine Kv9_bnd ?_ (fun _ _ _ => ?_) | with_reducible refine Kv9_ck ?_ | with_reducible refine Kv9_ltm ?_ (fun _ _ => ?_) | with_reducible refine Kv9_some ?_ | with_reducible refine Kv9_bo (fun _ => ?_) | with_reducible refine Kv9_T ?_ (fun _ _ _ => ?_) | with_reducible refine Kv9_H ?_ (fun _ _ _ => ?_) (fun _ _ => ?_) | with_reducible exact hG0 _ _ (by assumption) | with_reducible refine Kv9_ltv (fun _ => ?_) | with_reducible refine Kv9_I ?_ (by decide) | with_reducible refine Kv9_A ?_ trivial | with_reducible refine Kv9_J ?_ | with_reducible refine Kv9_L ?_ | with_reducible refine Kv9_I ?_ trivial)
theorem yv9_fb_M_save_0 {G : (MS → Int32 → Option (MS × Unit))} (h : Kv9c u0 u) (hG0 : ∀ (u : MS) a0, Kv9c u0 u → Kv9E u0 (G u a0)) : Kv9E u0 (fb_M_save_0 N G u) := by
  unfold fb_M_save_0
  repeat' (first | with_reducible assumption | with_reducible refine Kv9_br ?_ ?_ | with_reducible refine Kv9_bnd ?_ (fun _ _ _ => ?_) | with_reducible refine Kv9_ck ?_ | with_reducible refine Kv9_ltm ?_ (fun _ _ => ?_) | with_reducible refine Kv9_some ?_ | with_reducible refine Kv9_bo (fun _ => ?_) | with_reducible refine Kv9_T ?_ (fun _ _ _ => ?_) | with_reducible refine Kv9_H ?_ (fun _ _ _ => ?_) (fun _ _ => ?_) | with_reducible exact yv9_fb_M_save_127 (by assumption) (by first | decide | assumption) hG0 | with_reducible exact hG0 _ _ (by assumption) | with_reducible refine Kv9_ltv (fun _ => ?_) | with_reducible refine Kv9_I ?_ (by decide) | with_reducible refine Kv9_A ?_ trivial | with_reducible refine Kv9_J ?_ | with_reducible refine Kv9_L ?_ | with_reducible refine Kv9_I ?_ trivial)
theorem yv9_gg_M_save  (n : Nat) : (∀ (u : MS) a0, Kv9c u0 u → Kv9E u0 ((gg_M_save N n) u a0)) := by
  induction n with
  | zero => exact fun _ _ _ => Kv9_none
  | succ n ih => exact fun _ _ h => yv9_fb_M_save_141 (N := N) h ih
theorem yv9_fm_M_save  (h : Kv9c u0 u)  : Kv9E u0 (fm_M_save N u) := by
  unfold fm_M_save
  exact yv9_fb_M_save_0 h ((yv9_gg_M_save N))
theorem yv9_fb_M_takeBack_115 {G : (MS → Int32 → Option (MS × Unit))} {v2 : Int32} (h : Kv9c u0 u) (hG0 : ∀ (u : MS) a0, Kv9c u0 u → Kv9E u0 (G u a0)) : Kv9E u0 (fb_M_takeBack_115 N G u v2) := by
  unfold fb_M_takeBack_115
  repeat' (first | with_reducible assumption | with_reducible refine Kv9_br ?_ ?_ | with_reducible refine Kv9_bnd ?_ (fun _ _ _ => ?_) | with_reducible refine Kv9_ck ?_ | with_reducible refine Kv9_ltm ?_ (fun _ _ => ?_) | with_reducible refine Kv9_some ?_ | with_reducible refine Kv9_bo (fun _ => ?_) | with_reducible refine Kv9_T ?_ (fun _ _ _ => ?_) | with_reducible refine Kv9_H ?_ (fun _ _ _ => ?_) (fun _ _ => ?_) | with_reducible exact hG0 _ _ (by assumption) | with_reducible refine Kv9_ltv (fun _ => ?_) | with_reducible refine Kv9_I ?_ (by decide) | with_reducible refine Kv9_A ?_ trivial | with_reducible refine Kv9_J ?_ | with_reducible refine Kv9_L ?_ | with_reducible refine Kv9_I ?_ trivial)
theorem yv9_fb_M_takeBack_110 {G : (MS → Int32 → Option (MS × Unit))} {t1 : Int32} (h : Kv9c u0 u) (hG0 : ∀ (u : MS) a0, Kv9c u0 u → Kv9E u0 (G u a0)) : Kv9E u0 (fb_M_takeBack_110 N G u t1) := by
  unfold fb_M_takeBack_110
  repeat' (first | with_reducible assumption | with_reducible refine Kv9_br ?_ ?_ | with_reducible refine Kv9_bnd ?_ (fun _ _ _ => ?_) | with_reducible refine Kv9_ck ?_ | with_reducible refine Kv9_ltm ?_ (fun _ _ => ?_) | with_reducible refine Kv9_some ?_ | with_reducible refine Kv9_bo (fun _ => ?_) | with_reducible refine Kv9_T ?_ (fun _ _ _ => ?_) | with_reducible refine Kv9_H ?_ (fun _ _ _ => ?_) (fun _ _ => ?_) | with_reducible exact hG0 _ _ (by assumption) | with_reducible refine Kv9_ltv (fun _ => ?_) | with_reducible refine Kv9_I ?_ (by decide) | with_reducible refine Kv9_A ?_ trivial | with_reducible refine Kv9_J ?_ | with_reducible refine Kv9_L ?_ | with_reducible refine Kv9_I ?_ trivial)
theorem yv9_fb_M_takeBack_0 {G : (MS → Int32 → Option (MS × Unit))} (h : Kv9c u0 u) (hG0 : ∀ (u : MS) a0, Kv9c u0 u → Kv9E u0 (G u a0)) : Kv9E u0 (fb_M_takeBack_0 N G u) := by
  unfold fb_M_takeBack_0
  repeat' (first | with_reducible assumption | with_reducible refine Kv9_br ?_ ?_ | with_reducible refine Kv9_bnd ?_ (fun _ _ _ => ?_) | with_reducible refine Kv9_ck ?_ | with_reducible refine Kv9_ltm ?_ (fun _ _ => ?_) | with_reducible refine Kv9_some ?_ | with_reducible refine Kv9_bo (fun _ => ?_) | with_reducible refine Kv9_T ?_ (fun _ _ _ => ?_) | with_reducible refine Kv9_H ?_ (fun _ _ _ => ?_) (fun _ _ => ?_) | with_reducible exact yv9_fb_M_takeBack_110 (by assumption) hG0 | with_reducible exact hG0 _ _ (by assumption) | with_reducible refine Kv9_ltv (fun _ => ?_) | with_reducible refine Kv9_I ?_ (by decide) | with_reducible refine Kv9_A ?_ trivial | with_reducible refine Kv9_J ?_ | with_reducible refine Kv9_L ?_ | with_reducible refine Kv9_I ?_ trivial)
theorem yv9_gg_M_takeBack  (n : Nat) : (∀ (u : MS) a0, Kv9c u0 u → Kv9E u0 ((gg_M_takeBack N n) u a0)) := by
  induction n with
  | zero => exact fun _ _ _ => Kv9_none
  | succ n ih => exact fun _ _ h => yv9_fb_M_takeBack_115 (N := N) h ih
theorem yv9_fm_M_takeBack  (h : Kv9c u0 u)  : Kv9E u0 (fm_M_takeBack N u) := by
  unfold fm_M_takeBack
  exact yv9_fb_M_takeBack_0 h ((yv9_gg_M_takeBack N))
end
end
section
set_option maxRecDepth 100000
section
variable {C : Nat → Int} {R : Nat → Nat → Int} {J : Nat → Int64} {S S2 : Option (Nat × Nat × Nat) → Nat → Nat → List Nat → List Nat → Prop} {y : Option (Nat × Nat × Nat)} {a n f f2 kd sc e k : Nat} {H O : List Nat}
theorem CH_mo (hS : ∀ y a n H O, S y a n H O → S2 y a n H O) (h : CHs C R S kd e k H O) : CHs C R S2 kd e k H O := by
  obtain ⟨b, h1, h2⟩ := h
  refine ⟨b, h1, ?_⟩
  rcases h2 with ⟨g1, g2, g3, g4, g5⟩ | ⟨g1, g2, g3⟩ | ⟨g1, g2⟩ | ⟨g1, g2, g3⟩
  · exact Or.inl ⟨g1, g2, g3, g4, hS _ _ _ _ _ g5⟩
  · exact Or.inr (Or.inl ⟨g1, g2, hS _ _ _ _ _ g3⟩)
  · exact Or.inr (Or.inr (Or.inl ⟨g1, hS _ _ _ _ _ g2⟩))
  · exact Or.inr (Or.inr (Or.inr ⟨g1, g2, hS _ _ _ _ _ g3⟩))
theorem ZR_mo (hS : ∀ y a n H O, S y a n H O → S2 y a n H O) : ∀ {f f2 a : Nat} {k : Int}, f ≤ f2 → ZRs C R J S kd sc H O f a k → ZRs C R J S2 kd sc H O f2 a k
  | 0, _, _, _, _, h => h.elim
  | f + 1, 0, _, _, hf, _ => by omega
  | f + 1, f2 + 1, a, k, hf, h => by
    obtain ⟨h0, h⟩ := h
    refine ⟨h0, ?_⟩
    rcases h with h | ⟨k0, hk, e, O2, h1, h2⟩
    · exact Or.inl h
    · refine Or.inr ⟨k0, hk, e, O2, ?_, ?_⟩
      · rcases h1 with h1 | ⟨g1, ⟨fl, g2, g3⟩, g4⟩
        · exact Or.inl h1
        · exact Or.inr ⟨g1, ⟨fl, g2, ZR_mo hS (by omega) g3⟩, g4⟩
      · rcases h2 with ⟨g1, g2⟩ | ⟨g, fl, g1, g2, g3, g4, g5, g6, g7⟩
        · exact Or.inl ⟨g1, CH_mo hS g2⟩
        · exact Or.inr ⟨g, fl, g1, g2, g3, g4, g5, ZR_mo hS (by omega) g6, hS _ _ _ _ _ g7⟩
theorem RC_mo (hS : ∀ y a n H O, S y a n H O → S2 y a n H O) (hf : f ≤ f2) (h : RCs C R J S f sc n H O) : RCs C R J S2 f2 sc n H O := by
  obtain ⟨h1, h2, h3, h4⟩ := h
  refine ⟨h1, ZR_mo hS hf h2, fun z => ?_, h4⟩
  obtain ⟨a, l, b, g1, g2, g3, g4⟩ := h3 z
  exact ⟨a, l, b, g1, g2, g3, hS _ _ _ _ _ g4⟩
theorem LC_mo (hS : ∀ y a n H O, S y a n H O → S2 y a n H O) (hf : f ≤ f2) : LCs C R J f S y a n H O → LCs C R J f2 S2 y a n H O :=
  Or.imp (fun h => ⟨h.1, h.2.1, h.2.2.1, h.2.2.2.1, h.2.2.2.2.1, hS _ _ _ _ _ h.2.2.2.2.2⟩)
    (Or.imp (fun h => ⟨h.1, h.2.1, h.2.2.elim (fun l h => ⟨l, h.1, hS _ _ _ _ _ h.2⟩)⟩)
    (Or.imp (fun h => ⟨h.1, h.2.1, h.2.2.1, hS _ _ _ _ _ h.2.2.2⟩)
    (Or.imp (fun h => ⟨h.1, h.2.1, h.2.2.1, hS _ _ _ _ _ h.2.2.2⟩)
    (Or.imp (fun h => ⟨h.1, h.2.1, h.2.2.1, h.2.2.2.1, h.2.2.2.2.1, hS _ _ _ _ _ h.2.2.2.2.2⟩)
    (Or.imp (fun h => ⟨h.1, h.2.1, h.2.2.1, h.2.2.2.1, h.2.2.2.2.1, h.2.2.2.2.2.imp (fun h => ⟨h.1, hS _ _ _ _ _ h.2⟩) (fun h => ⟨h.1, h.2.1, h.2.2.1, hS _ _ _ _ _ h.2.2.2⟩)⟩)
    (Or.imp (fun h => ⟨h.1, h.2.1, hS _ _ _ _ _ h.2.2⟩)
    (Or.imp (fun h => ⟨h.1, h.2.1, hS _ _ _ _ _ h.2.2⟩)
    (Or.imp (fun h => ⟨h.1, h.2.1, hS _ _ _ _ _ h.2.2⟩)
    (Or.imp (fun h => ⟨h.1, h.2.1.elim (fun t h => h.elim (fun b h => ⟨t, b, h.1, h.2.1, hS _ _ _ _ _ h.2.2⟩)), hS _ _ _ _ _ h.2.2⟩)
    (Or.imp (fun h => ⟨h.1, h.2.1, hS _ _ _ _ _ h.2.2⟩)
    (Or.imp (fun h => ⟨h.1, h.2.1, h.2.2.1, hS _ _ _ _ _ h.2.2.2⟩)
    (Or.imp (fun h => ⟨h.1, h.2.1, h.2.2.1, h.2.2.2.1, h.2.2.2.2.1, h.2.2.2.2.2.1, h.2.2.2.2.2.2.imp id (fun h => ⟨h.1, h.2.1, hS _ _ _ _ _ h.2.2⟩)⟩)
    (Or.imp (fun h => ⟨h.1, h.2.1, h.2.2.1, h.2.2.2.1, h.2.2.2.2.imp id (fun h => ⟨h.1, h.2.1, hS _ _ _ _ _ h.2.2⟩)⟩)
    (Or.imp (fun h => ⟨h.1, h.2.1, h.2.2.1, h.2.2.2.elim (fun u h => h.elim (fun l h => h.elim (fun b h => ⟨u, l, b, h.1, h.2.1, h.2.2.1, h.2.2.2.1, h.2.2.2.2.1, hS _ _ _ _ _ h.2.2.2.2.2⟩)))⟩)
    (Or.imp (fun h => ⟨h.1, h.2.1, h.2.2.1, hS _ _ _ _ _ h.2.2.2⟩)
    (Or.imp (fun h => ⟨h.1, h.2.1, h.2.2.1, h.2.2.2.elim (fun p h => h.elim (fun e h => h.elim (fun O2 h => ⟨p, e, O2, h.1, h.2.1, h.2.2.1, hS _ _ _ _ _ h.2.2.2⟩)))⟩)
    (Or.imp (fun h => ⟨h.1, h.2.1, hS _ _ _ _ _ h.2.2⟩)
    (Or.imp (fun h => ⟨h.1, h.2.1, h.2.2.elim (fun k h => ⟨k, h.1, h.2.1, h.2.2.1, hS _ _ _ _ _ h.2.2.2⟩)⟩)
    (Or.imp (fun h => ⟨h.1, h.2.1, h.2.2.1, h.2.2.2.1, h.2.2.2.2.elim (fun k h => ⟨k, h.1, h.2.1, h.2.2.1, hS _ _ _ _ _ h.2.2.2⟩)⟩)
    (Or.imp (fun h => ⟨h.1, h.2.1, h.2.2.1, h.2.2.2.1.elim (fun t h => h.elim (fun b h => ⟨t, b, h.1, h.2.1, hS _ _ _ _ _ h.2.2⟩)), hS _ _ _ _ _ h.2.2.2.2⟩)
    (Or.imp (fun h => ⟨h.1, h.2.1, hS _ _ _ _ _ h.2.2⟩)
    (Or.imp (fun h => ⟨h.1, h.2.1, h.2.2.1, ZR_mo hS hf h.2.2.2⟩)
    (Or.imp (fun h => ⟨h.1, h.2.1, h.2.2.1, hS _ _ _ _ _ h.2.2.2⟩)
    (Or.imp (fun h => ⟨h.1, h.2.1, h.2.2.elim (fun kd h => h.elim (fun k h => h.elim (fun sc h => ⟨kd, k, sc, h.1, CH_mo hS h.2⟩)))⟩)
    (Or.imp (fun h => ⟨h.1, h.2.1, h.2.2.elim (fun t h => h.elim (fun b h => ⟨t, b, h.1, h.2.1, hS _ _ _ _ _ h.2.2⟩))⟩)
    (Or.imp (fun h => ⟨h.1, h.2.elim (fun b h => ⟨b, h.1, hS _ _ _ _ _ h.2⟩)⟩)
    (Or.imp (fun h => ⟨h.1, h.2.1, h.2.2.1, h.2.2.2.1, h.2.2.2.2.1, h.2.2.2.2.2.1, RC_mo hS hf h.2.2.2.2.2.2⟩)
    (Or.imp (fun h => ⟨h.1, h.2.1, h.2.2.elim (fun r h => h.elim (fun k h => h.elim (fun a2 h => ⟨r, k, a2, h.1, h.2.1, h.2.2.1, h.2.2.2.1, h.2.2.2.2.1, h.2.2.2.2.2.1, h.2.2.2.2.2.2.1, h.2.2.2.2.2.2.2.1, h.2.2.2.2.2.2.2.2.1, RC_mo hS hf h.2.2.2.2.2.2.2.2.2⟩)))⟩)
    (Or.imp (id)
    (fun h => ⟨h.1, hS _ _ _ _ _ h.2⟩))))))))))))))))))))))))))))))
theorem CR_mo : ∀ {f f2 : Nat} {y : Option (Nat × Nat × Nat)} {a n : Nat} {H O : List Nat}, f ≤ f2 → CRs C R J f y a n H O → CRs C R J f2 y a n H O
  | 0, _, _, _, _, _, _, _, h => h.elim
  | f + 1, 0, _, _, _, _, _, hf, _ => by omega
  | f + 1, f2 + 1, y, a, n, H, O, hf, h => ⟨h.1, h.2.1, LC_mo (fun _ _ _ _ _ => CR_mo (by omega)) (by omega) h.2.2⟩
end
end
section
set_option maxRecDepth 100000
def LKt : SCT → Nat → Int → Prop
  | [], _, _ => False
  | e :: _, x, i => (∃ k : Nat, i = ((k : Nat) : Int) ∧ e.1[k]? = some x) ∨ (x ∉ e.1 ∧ ((∃ k : Nat, i = -2 - ((k : Nat) : Int) ∧ e.2.1[k]? = some x) ∨ 60 ≤ e.2.1.length))
def HFl (w : MS) : SCT → Prop
  | [] => True
  | e :: t => (∀ k x, e.2.1[k]? = some x → ∃ i : Int, w.2.2.1 62 (1400 * t.length + k) = I i ∧ LKt t x i) ∧ HFl w t
def FDX (x : Nat) (sc : SCT) (w v : MS) (r : Int32) : Prop := (r = -1 ∧ v = w ∧ fnb x sc = false) ∨ (r ≠ -1 ∧ fnb x sc = true ∧ FHD w v ∧ (FHU sc.length w v ∧ ∀ j, 1400 * sc.length ≤ j → v.2.2.1 62 j = w.2.2.1 62 j) ∧ RNl v (hld x sc) ∧ HFl v (hld x sc) ∧ ∃ i : Int, r = I i ∧ LKt (hld x sc) x i)
section
variable {w v : MS} {sc t t2 : SCT} {e e2 : List Nat × List Nat × Nat} {s x y N d : Nat} {i : Int}
theorem LKt_mo (h1 : e2.1 = e.1) (h2 : e.2.1 <+: e2.2.1) (h : LKt (e :: t) x i) : LKt (e2 :: t2) x i := by
  rcases h with ⟨k, a, b⟩ | ⟨a, ⟨k, b, c⟩ | b⟩
  · exact Or.inl ⟨k, a, by rw [h1]; exact b⟩
  · refine Or.inr ⟨by rw [h1]; exact a, Or.inl ⟨k, b, ?_⟩⟩
    obtain ⟨l, hl⟩ := h2
    rw [← hl, List.getElem?_append_left (List.getElem?_eq_some_iff.mp c).1]
    exact c
  · refine Or.inr ⟨by rw [h1]; exact a, Or.inr ?_⟩
    have := h2.length_le
    omega
theorem hld_hd {t : SCT} (h : LKt t y i) : LKt (hld x t) y i := by
  cases t with
  | nil => exact h.elim
  | cons e t =>
    unfold hld
    split
    · exact h
    · split
      · split
        · exact LKt_mo (e := e) (t := t) rfl (List.prefix_append _ _) h
        · exact LKt_mo (e := e) (t := t) rfl List.prefix_rfl h
      · exact h
theorem HFl_fr : ∀ {sc : SCT}, SOK sc → HFl w sc → (∀ j, j < 1400 * sc.length → v.2.2.1 62 j = w.2.2.1 62 j) → HFl v sc
  | [], _, _, _ => trivial
  | e :: t, ok, h, b => by
    obtain ⟨⟨n1, n2, n3, n4, n5, n6, n7⟩, ok2⟩ := ok
    have el : (e :: t).length = t.length + 1 := rfl
    refine ⟨fun k x hk => ?_, HFl_fr ok2 h.2 (fun j hj => b j (by omega))⟩
    have := (List.getElem?_eq_some_iff.mp hk).1
    rw [b _ (by omega)]
    exact h.1 k x hk
theorem bIx_loop (hw : RW1 w s e) (hs : s ≤ 27) (hl : e.1.length ≤ 1400) (hx : x < 1400) (hb : ∀ y, y ∈ e.1 → y < 1400) : ∀ (M k : Nat), (∀ j, j < k → e.1[j]? ≠ some x) → k ≤ e.1.length → PK (fun v r => v = w ∧ ((r = -1 ∧ x ∉ e.1) ∨ ∃ j : Nat, r = I (j : Nat) ∧ j < 1400 ∧ e.1[j]? = some x)) (gg_M_boundIn N M w (I (s : Nat)) (I (x : Nat)) (I (k : Nat)))
  | 0, k, _, _ => pk_none
  | M + 1, k, hj, hk => by
    show PK _ (fb_M_boundIn_2 N (gg_M_boundIn N M) w (I (s : Nat)) (I (x : Nat)) (I (k : Nat)))
    unfold fb_M_boundIn_2
    refine pk_ck (fun _ => ?_)
    rw [tnI (n := s) rfl (by omega), hw.1, decI (by omega) (by omega) (by omega) (by omega)]
    refine pk_br (fun h1 => ?_) (fun h1 => ?_)
    · have h1 := of_decide_eq_true h1
      refine pk_some ⟨rfl, Or.inl ⟨rfl, fun hm => ?_⟩⟩
      obtain ⟨j, hj2, e2⟩ := List.getElem_of_mem hm
      exact hj j (by omega) (by rw [List.getElem?_eq_getElem hj2, e2])
    · have h1 := of_decide_eq_false h1
      have hk2 : k < e.1.length := by omega
      refine pk_ck (fun _ => ?_)
      have e1 : (1400 : Int32) * I (s : Nat) + I (k : Nat) = I ((1400 * s + k : Nat) : Int) := by
        rw [show (1400 : Int32) = I 1400 from rfl, I_mul, I_add]
        congr 1
      have gk : e.1[k]? = some e.1[k] := List.getElem?_eq_getElem hk2
      have hy := hb _ (List.getElem_mem hk2)
      rw [e1, tnI (n := 1400 * s + k) rfl (by omega), hw.2.1 k _ gk]
      refine pk_br (fun h2 => ?_) (fun h2 => ?_)
      · have h2 := of_decide_eq_true h2
        have : e.1[k] = x := i_inj (by omega) (by omega) h2
        exact pk_some ⟨rfl, Or.inr ⟨k, rfl, by omega, by rw [gk, this]⟩⟩
      · have h2 := of_decide_eq_false h2
        rw [i_suc]
        refine bIx_loop hw hs hl hx hb M (k + 1) (fun j hj2 => ?_) (by omega)
        by_cases ej : j = k
        · rw [ej, gk]
          intro z
          injection z with z
          exact h2 (by rw [z])
        · exact hj j (by omega)
theorem bIx_p (hw : RW1 w s e) (hs : s ≤ 27) (hn : e.1.Nodup) (hb : ∀ y, y ∈ e.1 → y < 1400) (hx : x < 1400) : PK (fun v r => v = w ∧ ((r = -1 ∧ x ∉ e.1) ∨ ∃ j : Nat, r = I (j : Nat) ∧ j < 1400 ∧ e.1[j]? = some x)) (fm_M_boundIn N w (I (s : Nat)) (I (x : Nat))) := by
  unfold fm_M_boundIn fb_M_boundIn_0
  have := bIx_loop (N := N) hw hs (nd_len 1400 _ hn hb) hx hb N 0 (fun j hj => absurd hj (Nat.not_lt_zero _)) (Nat.zero_le _)
  exact this
theorem fnx_lp (S : SG_M_found) (hx : x < 1400) (hw : RW1 w t.length e) (ht : RNl w t) (hf : HFl w (e :: t)) (ok : SOK (e :: t)) (hs : t.length ≤ 26) (nx : x ∉ e.1) (hS : t ≠ [] → PK (fun v r => FDX x t w v r) (S w (I ((t.length - 1 : Nat) : Int)) (I (x : Nat)))) : ∀ (M k : Nat), (∀ j, j < k → e.2.1[j]? ≠ some x) → k ≤ e.2.1.length → PK (fun v r => FDX x (e :: t) w v r) (gg_M_found N S M w (I (t.length : Nat)) (I (x : Nat)) (I (k : Nat)))
  | 0, k, _, _ => pk_none
  | M + 1, k, hj, hk => by
    obtain ⟨⟨n1, n2, n3, n4, n5, n6, n7⟩, ok2⟩ := id ok
    show PK _ (fb_M_found_17 N S (gg_M_found N S M) w (I (t.length : Nat)) (I (x : Nat)) (I (k : Nat)))
    unfold fb_M_found_17
    refine pk_ck (fun _ => ?_)
    rw [tnI (n := t.length) rfl (by omega), hw.2.2.1, decI (by omega) (by omega) (by omega) (by omega)]
    refine pk_br (fun h1 => ?_) (fun h1 => ?_)
    · have h1 := of_decide_eq_true h1
      have nh : x ∉ e.2.1 := fun hm => by
        obtain ⟨j, hj2, e2⟩ := List.getElem_of_mem hm
        exact hj j (by omega) (by rw [List.getElem?_eq_getElem hj2, e2])
      have c1 : (e.1.contains x || e.2.1.contains x) = false := by
        rw [Bool.or_eq_false_iff]
        exact ⟨by simpa using nx, by simpa using nh⟩
      have fe : fnb x (e :: t) = fnb x t := by
        unfold fnb
        rw [List.any_cons]
        have : e.1.contains x = false := by simpa using nx
        rw [this, Bool.false_or]
      refine pk_br (fun h2 => ?_) (fun h2 => ?_)
      · have h2 := of_decide_eq_true h2
        have h0 : t.length = 0 := i_inj (by omega) (by omega) h2
        refine pk_some (Or.inl ⟨rfl, rfl, ?_⟩)
        rw [fe, List.length_eq_zero_iff.mp h0]
        rfl
      · have h2 := of_decide_eq_false h2
        have t0 : t ≠ [] := fun z => h2 (by rw [z]; rfl)
        have tl : t.length ≠ 0 := fun z => t0 (List.length_eq_zero_iff.mp z)
        rw [show I (t.length : Nat) - 1 = I ((t.length - 1 : Nat) : Int) by rw [lit1q, I_sub]; congr 1; omega]
        refine pk_bnd (pk_mo (hS t0) (fun u1 r1 q => ?_))
        rcases q with ⟨q1, q2, q3⟩ | ⟨q1, q2, ⟨q3, q4⟩, ⟨⟨q5, q6⟩, q62⟩, q7, q8, i9, q9, q10⟩
        · rw [decide_eq_true q1]
          refine pk_some (Or.inl ⟨rfl, q2, by rw [fe]; exact q3⟩)
        · rw [decide_eq_false q1]
          refine pk_ck (fun _ => ?_)
          have hw1 : RW1 u1 t.length e := ⟨by rw [q4 60 (by decide)]; exact hw.1, fun k y hk => by rw [q4 59 (by decide)]; exact hw.2.1 k y hk, by rw [q5 _ (Nat.le_refl _)]; exact hw.2.2.1, fun k y hk => by rw [q6 _ (by omega)]; exact hw.2.2.2.1 k y hk, by rw [q4 64 (by decide)]; exact hw.2.2.2.2⟩
          have hl : (hld x t).length = t.length := hld_len
          rw [hw1.2.2.1, show (60 : Int32) = I 60 from rfl, decL (by omega) (by omega) (by omega) (by omega)]
          refine pk_br (fun h3 => ?_) (fun h3 => ?_)
          · have h3 := of_decide_eq_true h3
            have h60 : e.2.1.length < 60 := by omega
            refine pk_ck (fun _ => pk_ck (fun _ => ?_))
            have e1 : (1400 : Int32) * I (t.length : Nat) + I (e.2.1.length : Nat) = I ((1400 * t.length + e.2.1.length : Nat) : Int) := by
              rw [show (1400 : Int32) = I 1400 from rfl, I_mul, I_add]
              congr 1
            have e3 : ∀ g : Nat → Int32, (upA u1 61 g).2.2.1 63 t.length = I (e.2.1.length : Nat) := fun g => by rw [upA_no (by decide)]; exact hw1.2.2.1
            have e4 : ∀ g g2 : Nat → Int32, (upA (upA u1 61 g) 62 g2).2.2.1 63 t.length = I (e.2.1.length : Nat) := fun g g2 => by rw [upA_no (by decide)]; exact e3 g
            refine pk_ltq (pk_ck (fun _ => pk_ck (fun _ => pk_ltq (pk_ck (fun _ => pk_ck (fun _ => pk_ltq (pk_ck (fun _ => ?_))))))))
            rw [e1, tnI (n := 1400 * t.length + e.2.1.length) rfl (by omega), e3, e1, tnI (n := 1400 * t.length + e.2.1.length) rfl (by omega), e4, i_suc, upA_at, upd_at]
            refine pk_some (Or.inr ⟨?_, by rw [fe]; exact q2, ?_, ⟨?_, ?_⟩, ?_, ?_, ?_⟩)
            · rw [show (-1 : Int32) = I (-1) from rfl, I_sub, show (-1 : Int) - ((e.2.1.length + 1 : Nat) : Int) = -2 - (e.2.1.length : Int) by omega]
              exact neg_ne (by omega)
            · exact ⟨fun k => q3 k, fun k hk => by rw [upA_no (by omega), upA_no (by omega), upA_no (by omega)]; exact q4 k hk⟩
            · refine ⟨fun j hj => ?_, fun j hj => ?_⟩
              · rw [upA_at, upA_no (by decide), upA_no (by decide), upd_no (by simp only [List.length_cons] at hj; omega)]
                exact q5 j (by simp only [List.length_cons] at hj; omega)
              · rw [upA_no (by decide), upA_no (by decide), upA_at, upd_no (by simp only [List.length_cons] at hj; omega)]
                exact q6 j (by simp only [List.length_cons] at hj; omega)
            · intro j hj
              rw [upA_no (by decide), upA_at, upd_no (by simp only [List.length_cons] at hj; omega), upA_no (by decide)]
              exact q62 j (by simp only [List.length_cons] at hj; omega)
            · have hh : ∀ y, y ∈ e.2.1 → y < 1400 := fun y hy => fnd_lt ok2 (HLx_fnd (n6 y hy))
              have := hold_w (x := x) (r1 := r1) (t := hld x t) (w := u1) (e := e) h60 (by omega) (hld_ok ok2) (by rw [hl]; exact hw1) q7 hh (nd_len 1400 _ n1 n2)
              unfold hld
              rw [c1, if_neg (by decide), if_pos q2, if_pos h60]
              rw [hl] at this
              rw [upA_no (by decide), upA_no (by decide)]
              exact this
            · unfold hld
              rw [c1, if_neg (by decide), if_pos q2, if_pos h60]
              refine ⟨fun k y hk => ?_, ?_⟩
              · have hk : (e.2.1 ++ [x])[k]? = some y := hk
                rw [hl, upA_no (by decide), upA_at]
                by_cases ek : k < e.2.1.length
                · rw [List.getElem?_append_left ek] at hk
                  obtain ⟨i, i1, i2⟩ := hf.1 k y hk
                  rw [upd_no (by omega), upA_no (by decide), q62 _ (by omega)]
                  exact ⟨i, i1, hld_hd i2⟩
                · have hk2 := (List.getElem?_eq_some_iff.mp hk).1
                  rw [List.length_append, List.length_singleton] at hk2
                  have ek2 : k = e.2.1.length := by omega
                  rw [ek2, upd_at]
                  rw [ek2, List.getElem?_append_right (Nat.le_refl _), Nat.sub_self] at hk
                  injection hk with hk
                  rw [← hk]
                  exact ⟨i9, q9, q10⟩
              · refine HFl_fr (hld_ok ok2) q8 (fun j hj => ?_)
                rw [hl] at hj
                rw [upA_no (by decide), upA_at, upd_no (by omega), upA_no (by decide)]
            · refine ⟨-2 - (e.2.1.length : Int), ?_, ?_⟩
              · rw [show (-1 : Int32) = I (-1) from rfl, I_sub, show (-1 : Int) - ((e.2.1.length + 1 : Nat) : Int) = -2 - (e.2.1.length : Int) by omega]
              · unfold hld
                rw [c1, if_neg (by decide), if_pos q2, if_pos h60]
                refine Or.inr ⟨nx, Or.inl ⟨e.2.1.length, rfl, ?_⟩⟩
                show (e.2.1 ++ [x])[e.2.1.length]? = some x
                rw [List.getElem?_append_right (Nat.le_refl _), Nat.sub_self]
                rfl
          · have h3 := of_decide_eq_false h3
            refine pk_some (Or.inr ⟨by decide, by rw [fe]; exact q2, ⟨q3, q4⟩, ⟨⟨fun j hj => q5 j (by simp only [List.length_cons] at hj; omega), fun j hj => q6 j (by simp only [List.length_cons] at hj; omega)⟩, fun j hj => q62 j (by simp only [List.length_cons] at hj; omega)⟩, ?_⟩)
            unfold hld
            rw [c1, if_neg (by decide), if_pos q2, if_neg (by omega)]
            refine ⟨⟨by rw [hl]; exact hw1, q7⟩, ⟨fun k y hk => ?_, q8⟩, -2, rfl, Or.inr ⟨nx, Or.inr (by show 60 ≤ e.2.1.length; omega)⟩⟩
            obtain ⟨i, i1, i2⟩ := hf.1 k y hk
            have := (List.getElem?_eq_some_iff.mp hk).1
            rw [hl, q62 _ (by omega)]
            exact ⟨i, i1, hld_hd i2⟩
    · have h1 := of_decide_eq_false h1
      have hk2 : k < e.2.1.length := by omega
      refine pk_ck (fun _ => ?_)
      have e1 : (1400 : Int32) * I (t.length : Nat) + I (k : Nat) = I ((1400 * t.length + k : Nat) : Int) := by
        rw [show (1400 : Int32) = I 1400 from rfl, I_mul, I_add]
        congr 1
      have gk : e.2.1[k]? = some e.2.1[k] := List.getElem?_eq_getElem hk2
      have hy := fnd_lt ok2 (HLx_fnd (n6 _ (List.getElem_mem hk2)))
      rw [e1, tnI (n := 1400 * t.length + k) rfl (by omega), hw.2.2.2.1 k _ gk]
      refine pk_br (fun h2 => ?_) (fun h2 => ?_)
      · have h2 := of_decide_eq_true h2
        have ex : e.2.1[k] = x := i_inj (by omega) (by omega) h2
        have mx : x ∈ e.2.1 := by rw [← ex]; exact List.getElem_mem hk2
        refine pk_some (Or.inr ⟨?_, ?_, FHD_rf, ⟨FHU_rf, fun _ _ => rfl⟩, ?_⟩)
        · rw [show (-2 : Int32) = I (-2) from rfl, I_sub]
          exact neg_ne (by omega)
        · obtain ⟨d, hd, hx2⟩ := HLx_fnd (n6 x mx)
          exact fnb_e.mpr ⟨d, List.mem_cons_of_mem _ hd, hx2⟩
        · unfold hld
          rw [if_pos (by rw [Bool.or_eq_true]; exact Or.inr (List.contains_iff_mem.mpr mx))]
          exact ⟨⟨hw, ht⟩, hf, -2 - ((k : Nat) : Int), by rw [show (-2 : Int32) = I (-2) from rfl, I_sub], Or.inr ⟨nx, Or.inl ⟨k, rfl, by rw [gk, ex]⟩⟩⟩
      · have h2 := of_decide_eq_false h2
        rw [i_suc]
        refine fnx_lp S hx hw ht hf ok hs nx hS M (k + 1) (fun j hj2 => ?_) (by omega)
        by_cases ej : j = k
        · rw [ej, gk]
          intro z
          injection z with z
          exact h2 (by rw [z])
        · exact hj j (by omega)
theorem fnx_d (hx : x < 1400) : ∀ (d : Nat) (sc : SCT) (w : MS), RNl w sc → HFl w sc → SOK sc → sc ≠ [] → sc.length ≤ 27 → PK (fun v r => FDX x sc w v r) ((rc_M_found N d) w (I ((sc.length - 1 : Nat) : Int)) (I (x : Nat)))
  | 0, sc, w, _, _, _, _, _ => pk_none
  | d + 1, [], w, _, _, _, h, _ => absurd rfl h
  | d + 1, e :: t, w, hw, hf, ok, _, hl => by
    have hl : t.length + 1 ≤ 27 := hl
    show PK _ (fm_M_found N (rc_M_found N d) w (I (t.length : Nat)) (I (x : Nat)))
    unfold fm_M_found fb_M_found_0
    refine pk_bnd (pk_mo (bIx_p (N := N) hw.1 (by omega) ok.1.1 ok.1.2.1 hx) (fun v r q => ?_))
    obtain ⟨rfl, q⟩ := q
    rcases q with ⟨q1, q2⟩ | ⟨j, q1, q2, q3⟩
    · rw [decide_eq_true q1]
      exact fnx_lp (N := N) (rc_M_found N d) hx hw.1 hw.2 hf ok (by omega) q2 (fun t0 => fnx_d hx d t _ hw.2 hf.2 ok.2 t0 (by omega)) N 0 (fun j hj => absurd hj (Nat.not_lt_zero _)) (Nat.zero_le _)
    · rw [q1, decide_eq_false (nat_ne (by omega))]
      have q4 : x ∈ e.1 := List.mem_of_getElem? q3
      refine pk_some (Or.inr ⟨nat_ne (by omega), fnb_e.mpr ⟨e, List.mem_cons_self, q4⟩, FHD_rf, ⟨FHU_rf, fun _ _ => rfl⟩, ?_⟩)
      unfold hld
      rw [if_pos (by rw [Bool.or_eq_true]; exact Or.inl (List.contains_iff_mem.mpr q4))]
      exact ⟨hw, hf, ((j : Nat) : Int), rfl, Or.inl ⟨j, rfl, q3⟩⟩
end
end
section
set_option maxRecDepth 100000
def hdc (Nk K W : Nat → Nat) (L : Nat) : Nat → Nat → List Nat → List Nat
  | 0, _, l => l
  | n + 1, p, l => hdc Nk K W L n (p + 1) (if K p = 3 ∧ W p < L ∧ Nk p ∉ l ∧ l.length < 60 then l ++ [Nk p] else l)
def HDo (Nk K W : Nat → Nat) (p p2 : Nat) : SCT → SCT → Prop
  | [], [] => ∀ j, p ≤ j → j < p2 → K j = 3 → W j ≤ 32
  | e :: t, e2 :: t2 => e2.2.1 = hdc Nk K W t.length (p2 - p) p e.2.1 ∧ HDo Nk K W p p2 t t2
  | _, _ => False
section
variable {Nk K W W2 : Nat → Nat} {sc sc2 t t2 : SCT} {e e2 : List Nat × List Nat × Nat} {p p2 p3 x L n m : Nat} {l : List Nat} {own : Bool}
theorem hdc_add : ∀ (n m p : Nat) (l : List Nat), hdc Nk K W L (n + m) p l = hdc Nk K W L m (p + n) (hdc Nk K W L n p l)
  | 0, m, p, l => by rw [Nat.zero_add]; rfl
  | n + 1, m, p, l => by
    rw [show n + 1 + m = (n + m) + 1 by omega]
    show hdc Nk K W L (n + m) (p + 1) _ = hdc Nk K W L m (p + (n + 1)) (hdc Nk K W L n (p + 1) _)
    rw [hdc_add n m (p + 1), show p + 1 + n = p + (n + 1) by omega]
theorem hdc_no : ∀ (n p : Nat) (l : List Nat), (∀ j, p ≤ j → j < p + n → K j = 3 → L ≤ W j) → hdc Nk K W L n p l = l
  | 0, _, _, _ => rfl
  | n + 1, p, l, h => by
    show hdc Nk K W L n (p + 1) _ = l
    rw [if_neg (fun z => by have := h p (Nat.le_refl _) (by omega) z.1; omega)]
    exact hdc_no n (p + 1) l (fun j a b c => h j (by omega) (by omega) c)
theorem hdc_w : ∀ (n p : Nat) (l : List Nat), (∀ j, p ≤ j → j < p + n → W2 j = W j) → hdc Nk K W2 L n p l = hdc Nk K W L n p l
  | 0, _, _, _ => rfl
  | n + 1, p, l, h => by
    show hdc Nk K W2 L n (p + 1) _ = hdc Nk K W L n (p + 1) _
    rw [h p (Nat.le_refl _) (by omega)]
    exact hdc_w n (p + 1) _ (fun j a b => h j (by omega) (by omega))
theorem hdc_pre : ∀ (n p : Nat) (l : List Nat), l <+: hdc Nk K W L n p l
  | 0, _, _ => List.prefix_rfl
  | n + 1, p, l => by
    show l <+: hdc Nk K W L n (p + 1) _
    split
    · exact (List.prefix_append _ _).trans (hdc_pre n (p + 1) _)
    · exact hdc_pre n (p + 1) _
theorem HDo_len : ∀ {a b : SCT}, HDo Nk K W p p2 a b → b.length = a.length
  | [], [], _ => rfl
  | [], _ :: _, h => h.elim
  | _ :: _, [], h => h.elim
  | _ :: t, _ :: t2, h => by show t2.length + 1 = t.length + 1; rw [HDo_len h.2]
theorem HDo_tr : ∀ {a b c : SCT}, p ≤ p2 → p2 ≤ p3 → HDo Nk K W p p2 a b → HDo Nk K W p2 p3 b c → HDo Nk K W p p3 a c
  | [], [], [], _, _, h, k => fun j a b c => by
    by_cases z : j < p2
    · exact h j a z c
    · exact k j (by omega) b c
  | [], [], _ :: _, _, _, _, h => h.elim
  | [], _ :: _, _, _, _, h, _ => h.elim
  | _ :: _, [], _, _, _, h, _ => h.elim
  | _ :: _, _ :: _, [], _, _, _, h => h.elim
  | e :: t, e2 :: t2, e3 :: t3, l1, l2, h, k => by
    refine ⟨?_, HDo_tr l1 l2 h.2 k.2⟩
    rw [k.1, h.1, HDo_len h.2, show p3 - p = (p2 - p) + (p3 - p2) by omega, hdc_add, show p + (p2 - p) = p2 by omega]
theorem HDo_w : ∀ {a b : SCT}, (∀ j, p ≤ j → j < p2 → W2 j = W j) → HDo Nk K W p p2 a b → HDo Nk K W2 p p2 a b
  | [], [], hw, h => fun j a b c => by rw [hw j a b]; exact h j a b c
  | [], _ :: _, _, h => h.elim
  | _ :: _, [], _, h => h.elim
  | e :: t, e2 :: t2, hw, h => ⟨by rw [h.1, hdc_w _ _ _ (fun j a b => hw j a (by omega))], HDo_w hw h.2⟩
theorem HDo_no : ∀ {sc : SCT}, (∀ j, p ≤ j → j < p2 → K j = 3 → sc.length ≤ W j + 1 ∧ W j ≤ 32) → HDo Nk K W p p2 sc sc
  | [], h => fun j a b c => (h j a b c).2
  | e :: t, h => by
    have el : (e :: t).length = t.length + 1 := rfl
    exact ⟨(hdc_no _ _ _ (fun j a b c => by have := h j a (by omega) c; omega)).symm, HDo_no (fun j a b c => by have := h j a b c; omega)⟩
theorem HDo_gap (h : ∀ j, p ≤ j → j < p2 → K j ≠ 3) : HDo Nk K W p p2 sc sc := HDo_no (fun j a b c => absurd c (h j a b))
theorem hdc_1 : hdc Nk K W L 1 p l = if K p = 3 ∧ W p < L ∧ Nk p ∉ l ∧ l.length < 60 then l ++ [Nk p] else l := rfl
theorem HLx_HDo (hN : Nk p = x) (hb : W p ≤ 32) : ∀ {sc : SCT}, HLx x sc → W p = lvx x sc → HDo Nk K W p (p + 1) sc sc
  | [], h, _ => h.elim
  | e :: t, h, hW => by
    by_cases hx : x ∈ e.1
    · refine HDo_no (fun j a b c => ?_)
      have el : (e :: t).length = t.length + 1 := rfl
      rw [show j = p by omega]
      have : lvx x (e :: t) = t.length := by
        show (if e.1.contains x then t.length else lvx x t) = _
        rw [if_pos (List.contains_iff_mem.mpr hx)]
      omega
    · rcases h with h | ⟨h1, h2⟩
      · exact absurd h hx
      · have e1 : lvx x (e :: t) = lvx x t := by
          show (if e.1.contains x then t.length else lvx x t) = _
          rw [if_neg (fun z => hx (List.contains_iff_mem.mp z))]
        refine ⟨?_, HLx_HDo hN hb h2 (hW.trans e1)⟩
        rw [show p + 1 - p = 1 by omega, hdc_1, if_neg]
        rintro ⟨-, -, z1, z2⟩
        rcases h1 with h1 | h1
        · exact z1 (by rw [hN]; exact h1)
        · omega
theorem hld_HDo (hN : Nk p = x) (hK : K p = 3) (hb : W p ≤ 32) : ∀ {sc : SCT}, SOK sc → fnb x sc = true → W p = lvx x sc → HDo Nk K W p (p + 1) sc (hld x sc)
  | [], _, h, _ => by cases h
  | e :: t, ok, hf, hW => by
    have ok1 := ok.1
    unfold hld
    split
    · next c1 =>
      refine HLx_HDo hN hb ?_ hW
      rw [Bool.or_eq_true] at c1
      rcases c1 with c1 | c1
      · exact Or.inl (List.contains_iff_mem.mp c1)
      · exact Or.inr ⟨Or.inl (List.contains_iff_mem.mp c1), ok1.2.2.2.2.2.1 x (List.contains_iff_mem.mp c1)⟩
    · next c1 =>
      have n1 : ¬ x ∈ e.1 := fun z => c1 (by rw [Bool.or_eq_true]; exact Or.inl (List.contains_iff_mem.mpr z))
      have n2 : ¬ x ∈ e.2.1 := fun z => c1 (by rw [Bool.or_eq_true]; exact Or.inr (List.contains_iff_mem.mpr z))
      have e1 : lvx x (e :: t) = lvx x t := by
        show (if e.1.contains x then t.length else lvx x t) = _
        rw [if_neg (fun z => n1 (List.contains_iff_mem.mp z))]
      have f1 : fnb x t = true := by
        have : fnb x (e :: t) = (e.1.contains x || fnb x t) := by unfold fnb; rw [List.any_cons]
        rw [this, Bool.or_eq_true] at hf
        rcases hf with z | z
        · exact absurd (List.contains_iff_mem.mp z) n1
        · exact z
      rw [if_pos f1]
      refine ⟨?_, hld_HDo hN hK hb ok.2 f1 (hW.trans e1)⟩
      rw [show p + 1 - p = 1 by omega, hdc_1]
      have lt := lvx_lt f1
      by_cases h60 : e.2.1.length < 60
      · rw [if_pos h60, if_pos ⟨hK, by omega, by rw [hN]; exact n2, h60⟩, hN]
      · rw [if_neg h60, if_neg (fun z => h60 z.2.2.2)]
theorem rfP_do (ok : SOK (e :: t)) (hN : Nk p = x) (hK : K p = 3) (hW : W p = rfL own x (e :: t)) (hl : t.length ≤ 26) : HDo Nk K W p (p + 1) (e :: t) (rfP own x (e :: t)) := by
  have big : t.length + 1 ≤ W p + 1 ∧ W p ≤ 32 → HDo Nk K W p (p + 1) (e :: t) (e :: t) := fun z => HDo_no (fun j a b c => by rw [show j = p by omega]; exact z)
  have bb : t.length + 1 ≤ W p + 1 ∧ W p ≤ 32 → HDo Nk K W p (p + 1) (e :: t) (bnS x (e :: t)) := fun z => by
    have := big z
    exact ⟨this.1, this.2⟩
  cases own with
  | false =>
    cases hf : fnb x (e :: t) with
    | false =>
      obtain ⟨r1, r2, r3⟩ := rf_n hf
      rw [r1]
      exact bb (by rw [hW, r3]; omega)
    | true =>
      obtain ⟨r1, r2, r3⟩ := rf_y hf
      rw [r1]
      have lt := lvx_lt hf
      have el : (e :: t).length = t.length + 1 := rfl
      exact hld_HDo hN hK (by rw [hW, r3]; omega) ok hf (hW.trans r3)
  | true =>
    cases hf : e.1.contains x with
    | false =>
      obtain ⟨r1, r2, r3⟩ := ro_n (t := t) hf
      rw [r1]
      exact bb (by rw [hW, r3]; omega)
    | true =>
      obtain ⟨r1, r2, r3⟩ := ro_y (t := t) hf
      rw [r1]
      exact big (by rw [hW, r3]; omega)
end
end
section
set_option maxRecDepth 100000
def ptc (m : MS) (a : Nat) (x : Int32) : MS := upI (upA m 23 (upd (m.2.2.1 23) a x)) 441 (I ((a + 1 : Nat) : Int))
def nPd (w : MS) (p : Nat) (k : Int32) : MS := upI (upA (upA (upA (upA (upJ (upA w 33 (upd (w.2.2.1 33) p k)) 34 (vp_updL (w.2.2.2 34) p 0)) 35 (upd (w.2.2.1 35) p 0)) 36 (upd (w.2.2.1 36) p (-1))) 37 (upd (w.2.2.1 37) p (-1))) 38 (upd (w.2.2.1 38) p 0)) 39 (I ((p + 1 : Nat) : Int))
def nwD (w : MS) (i : Nat) (k t : Int32) : MS := upI (upA (upA (upA (upA (upA (upA (upA (upA w 23 (upd (w.2.2.1 23) i k)) 24 (upd (w.2.2.1 24) i t)) 25 (upd (w.2.2.1 25) i (-1))) 26 (upd (w.2.2.1 26) i (-1))) 27 (upd (w.2.2.1 27) i (-1))) 28 (upd (w.2.2.1 28) i (-1))) 29 (upd (w.2.2.1 29) i (-1))) 30 (upd (w.2.2.1 30) i 0)) 32 (I ((i + 1 : Nat) : Int))
section
variable {α β : Type} {N a i p : Nat} {m w : MS} {x k t : Int32} {R : MS → α → MS → β → Prop} {A' : Option (MS × α)} {B' : Option (MS × β)} {f : MS → Unit → Option (MS × α)} {g : MS → Int32 → Option (MS × β)}
theorem i_nt2 {p : Nat} (h : p ≤ 100000) : (I (p : Nat)).toNatClampNeg = p := tnI (n := p) rfl (by omega)
theorem putd_e (h : m.1 441 = I (a : Nat)) (ha : a ≤ 23990) : jm_Co_put N m x = if a < 23990 then some (ptc m a x, ()) else none := by
  unfold jm_Co_put
  rw [h, show (23990 : Int32) = I 23990 from rfl, decL (by omega) (by omega) (by decide) (by decide)]
  by_cases z : a < 23990
  · rw [if_pos z, decide_eq_true (by omega), ck_t]
    unfold hm_Co_put hb_Co_put_0 hb_Co_put_30
    rw [h, show (24000 : Int32) = I 24000 from rfl, decI (by decide) (by decide) (by omega) (by omega), decide_eq_false (by omega), br_fq, i_inb (by omega) (by decide), ck_t, i_nt2 (by omega), lt_e, lt_e]
    show some (upI (upA m 23 (upd (m.2.2.1 23) a x)) 441 (m.1 441 + 1), ()) = _
    rw [h, i_suc]
    rfl
  · rw [if_neg z, decide_eq_false (by omega)]
    rfl
theorem l_put (h : m.1 441 = I (a : Nat)) (ha : a ≤ 23990) (hk : a < 23990 → PP R (f (ptc m a x) ()) B') : PP R (bnd (jm_Co_put N m x) f) B' := by
  rw [putd_e h ha]
  by_cases z : a < 23990
  · rw [if_pos z, bnd_s]
    exact hk z
  · rw [if_neg z]
    exact pp_nl
theorem ptc_s : (ptc m a x).1 441 = I ((a + 1 : Nat) : Int) := upI_at
theorem ptc_i {j : Nat} (h : j ≠ 441) : (ptc m a x).1 j = m.1 j := upI_ne h
theorem ptc_r {j : Nat} (h : j ≠ 23) : (ptc m a x).2.2.1 j = m.2.2.1 j := upA_no h
theorem ptc_o {j : Nat} (h : j ≠ a) : (ptc m a x).2.2.1 23 j = m.2.2.1 23 j := by
  show (upA m 23 (upd (m.2.2.1 23) a x)).2.2.1 23 j = _
  rw [upA_at, upd_no h]
theorem ptc_n : (ptc m a x).2.2.1 23 a = x := by
  show (upA m 23 (upd (m.2.2.1 23) a x)).2.2.1 23 a = _
  rw [upA_at, upd_at]
theorem pat_e (h : w.1 39 = I (p : Nat)) (hp : p ≤ 5000) (hk : vp_nar .byte (k.toInt8.toInt32) = k) : fm_M_pattern N w k = if p < 5000 then some (nPd w p k, I (p : Nat)) else none := by
  unfold fm_M_pattern fb_M_pattern_0
  rw [hk, show vp_nar .boolean 0 = 0 from rfl, h, i_nt2 (by omega)]
  by_cases z : p < 5000
  · rw [if_pos z, show ln 33 = 5000 from rfl, i_inb z (by decide), ck_t, lt_e]
    have e1 : ∀ (v : MS) (j : Nat) (q : Nat → Int32), (upA v j q).1 39 = v.1 39 := fun _ _ _ => rfl
    have e2 : ∀ (v : MS) (j : Nat) (q : Nat → Int64), (upJ v j q).1 39 = v.1 39 := fun _ _ _ => rfl
    simp only [e1, e2, h, i_nt2 (show p ≤ 100000 by omega), show ln 34 = 5000 from rfl, show ln 35 = 5000 from rfl, show ln 36 = 5000 from rfl, show ln 37 = 5000 from rfl, show ln 38 = 5000 from rfl, i_inb z (show 5000 ≤ 2147483647 by decide), ck_t, lt_e, i_suc]
    rw [upI_at, show ((p + 1 : Nat) : Int) = (p : Int) + 1 by omega, ← I_add, ← lit1q, show I (p : Nat) + 1 - 1 = I (p : Nat) by rw [lit1q, I_add, I_sub]; congr 1; omega]
    rw [lit1q, I_add, show (p : Int) + 1 = ((p + 1 : Nat) : Int) by omega]
    rfl
  · rw [if_neg z]
    have : inb (I (p : Nat)) (ln 33) = false := by
      rw [show ln 33 = 5000 from rfl]
      cases hb : inb (I (p : Nat)) 5000 with
      | false => rfl
      | true => have := (I_inb (by omega) (by omega)).mp hb; omega
    rw [this]
    rfl
theorem r_pat (h : w.1 39 = I (p : Nat)) (hp : p ≤ 5000) (hk : vp_nar .byte (k.toInt8.toInt32) = k) (hh : p < 5000 → PP R A' (g (nPd w p k) (I (p : Nat)))) : PP R A' (bnd (fm_M_pattern N w k) g) := by
  rw [pat_e h hp hk]
  by_cases z : p < 5000
  · rw [if_pos z, bnd_s]
    exact hh z
  · rw [if_neg z]
    exact pp_nr
theorem nwP_n : (nPd w p k).1 39 = I ((p + 1 : Nat) : Int) := upI_at
theorem nwP_i {j : Nat} (h : j ≠ 39) : (nPd w p k).1 j = w.1 j := upI_ne h
theorem nwP_r {j : Nat} (h : j < 33 ∨ 38 < j) : (nPd w p k).2.2.1 j = w.2.2.1 j := by
  show (upA (upA (upA (upA (upJ (upA w 33 (upd (w.2.2.1 33) p k)) 34 (vp_updL (w.2.2.2 34) p 0)) 35 (upd (w.2.2.1 35) p 0)) 36 (upd (w.2.2.1 36) p (-1))) 37 (upd (w.2.2.1 37) p (-1))) 38 (upd (w.2.2.1 38) p 0)).2.2.1 j = _
  rw [upA_no (by omega), upA_no (by omega), upA_no (by omega), upA_no (by omega)]
  show (upA w 33 (upd (w.2.2.1 33) p k)).2.2.1 j = _
  rw [upA_no (by omega)]
theorem nwP_o {j q : Nat} (h : q ≠ p) : (nPd w p k).2.2.1 j q = w.2.2.1 j q := by
  show (if j = 38 then upd (w.2.2.1 38) p 0 else if j = 37 then upd (w.2.2.1 37) p (-1) else if j = 36 then upd (w.2.2.1 36) p (-1) else if j = 35 then upd (w.2.2.1 35) p 0 else if j = 33 then upd (w.2.2.1 33) p k else w.2.2.1 j) q = _
  by_cases h1 : j = 38
  · rw [if_pos h1, upd_no h, h1]
  by_cases h2 : j = 37
  · rw [if_neg h1, if_pos h2, upd_no h, h2]
  by_cases h3 : j = 36
  · rw [if_neg h1, if_neg h2, if_pos h3, upd_no h, h3]
  by_cases h4 : j = 35
  · rw [if_neg h1, if_neg h2, if_neg h3, if_pos h4, upd_no h, h4]
  by_cases h5 : j = 33
  · rw [if_neg h1, if_neg h2, if_neg h3, if_neg h4, if_pos h5, upd_no h, h5]
  · rw [if_neg h1, if_neg h2, if_neg h3, if_neg h4, if_neg h5]
theorem nwP_j {j q : Nat} (h : q ≠ p ∨ j ≠ 34) : (nPd w p k).2.2.2 j q = w.2.2.2 j q := by
  show (if j = 34 then vp_updL (w.2.2.2 34) p 0 else w.2.2.2 j) q = _
  by_cases h1 : j = 34
  · rw [if_pos h1, h1]
    rcases h with h | h
    · exact if_neg h
    · exact absurd h1 h
  · rw [if_neg h1]
theorem nwP_at : (nPd w p k).2.2.1 33 p = k ∧ (nPd w p k).2.2.1 35 p = 0 ∧ (nPd w p k).2.2.1 36 p = -1 ∧ (nPd w p k).2.2.1 37 p = -1 ∧ (nPd w p k).2.2.1 38 p = 0 := ⟨upd_at, upd_at, upd_at, upd_at, upd_at⟩
end
end
section
set_option maxRecDepth 100000
def NWd : SCT → SCT → Prop
  | [], [] => True
  | e :: t, e2 :: t2 => e.1 <+: e2.1 ∧ BDs t t2 ∧ ∀ x, x ∈ e2.1 → x ∈ e.1 ∨ fnb x (e :: t) = false
  | _, _ => False
def HDw (own : Bool) (nm Nk K W : Nat → Nat) (p p2 : Nat) (sc sc2 : SCT) : Prop := HDo Nk K W p p2 sc sc2 ∧ (own = false → WCN Nk K nm W p p2 sc ∧ NWd sc sc2)
section
variable {nm Nk K W W2 : Nat → Nat} {a b c sc sc2 t t2 : SCT} {e e2 : List Nat × List Nat × Nat} {p p2 p3 x : Nat} {own : Bool}
theorem fnb_cs : fnb x (e :: t) = (e.1.contains x || fnb x t) := by unfold fnb; rw [List.any_cons]
theorem NWX_rf : NWd sc sc := by
  cases sc with
  | nil => trivial
  | cons e t => exact ⟨List.prefix_rfl, BDs_rf, fun x hx => Or.inl hx⟩
theorem NWX_fnb (h : NWd a b) (f : fnb x a = true) : fnb x b = true := by
  cases a with
  | nil => cases f
  | cons e t =>
    cases b with
    | nil => exact h.elim
    | cons e2 t2 =>
      obtain ⟨h1, h2, -⟩ := h
      rw [fnb_cs, Bool.or_eq_true] at f ⊢
      rcases f with f | f
      · exact Or.inl (List.contains_iff_mem.mpr (h1.subset (List.contains_iff_mem.mp f)))
      · exact Or.inr (by rw [BDs_fnb h2]; exact f)
theorem NWX_lvx (h : NWd a b) (f : fnb x a = true) : lvx x b = lvx x a := by
  cases a with
  | nil => cases f
  | cons e t =>
    cases b with
    | nil => exact h.elim
    | cons e2 t2 =>
      obtain ⟨h1, h2, h3⟩ := h
      show (if e2.1.contains x then t2.length else lvx x t2) = (if e.1.contains x then t.length else lvx x t)
      by_cases z : x ∈ e.1
      · rw [if_pos (List.contains_iff_mem.mpr z), if_pos (List.contains_iff_mem.mpr (h1.subset z)), (BDs_len h2).1]
      · have z2 : ¬ x ∈ e2.1 := fun y => by
          rcases h3 x y with y | y
          · exact z y
          · rw [f] at y; cases y
        rw [if_neg (fun y => z (List.contains_iff_mem.mp y)), if_neg (fun y => z2 (List.contains_iff_mem.mp y)), BDs_lvx h2]
theorem NWX_len (h : NWd a b) : b.length = a.length := by
  cases a with
  | nil =>
    cases b with
    | nil => rfl
    | cons e2 t2 => exact h.elim
  | cons e t =>
    cases b with
    | nil => exact h.elim
    | cons e2 t2 => show t2.length + 1 = t.length + 1; rw [(BDs_len h.2.1).1]
theorem NWX_tr (h : NWd a b) (k : NWd b c) : NWd a c := by
  have hf := fun x => NWX_fnb (x := x) h
  cases a with
  | nil =>
    cases b with
    | nil => exact k
    | cons e2 t2 => exact h.elim
  | cons e t =>
    cases b with
    | nil => exact h.elim
    | cons e2 t2 =>
      cases c with
      | nil => exact k.elim
      | cons e3 t3 =>
        refine ⟨h.1.trans k.1, BDs_tr h.2.1 k.2.1, fun x hx => ?_⟩
        rcases k.2.2 x hx with y | y
        · exact h.2.2 x y
        · refine Or.inr ?_
          cases z : fnb x (e :: t) with
          | false => rfl
          | true => rw [hf x z] at y; cases y
theorem WCN_cat (h : WCN Nk K nm W p p2 a) (k : WCN Nk K nm W p2 p3 b) (n : NWd a b) : WCN Nk K nm W p p3 a := fun j h1 h2 h3 => by
  by_cases z : j < p2
  · exact h j h1 z h3
  obtain ⟨g1, g2⟩ := k j (by omega) h2 h3
  refine ⟨fun y1 y2 => (g1 y1 (NWX_fnb n y2)).trans (NWX_lvx n y2), fun y => ?_⟩
  have ln := NWX_len n
  by_cases y1 : nm (Nk j) = 0 ∨ fnb (Nk j) b = false
  · have := g2 y1; omega
  · have n0 : nm (Nk j) ≠ 0 := fun q => y1 (Or.inl q)
    have f1 : fnb (Nk j) b = true := by
      cases q : fnb (Nk j) b with
      | false => exact absurd (Or.inr q) y1
      | true => rfl
    have f0 : fnb (Nk j) a = false := y.resolve_left n0
    rw [g1 n0 f1]
    cases a with
    | nil =>
      cases b with
      | nil => cases f1
      | cons e2 t2 => exact n.elim
    | cons e t =>
      cases b with
      | nil => exact n.elim
      | cons e2 t2 =>
        obtain ⟨n1, n2, n3⟩ := n
        have : fnb (Nk j) t2 = false := by
          rw [BDs_fnb n2]
          rw [fnb_cs, Bool.or_eq_false_iff] at f0
          exact f0.2
        rw [fnb_cs, this, Bool.or_false] at f1
        show t.length + 1 ≤ (if e2.1.contains (Nk j) then t2.length else lvx (Nk j) t2) + 1
        rw [if_pos f1, (BDs_len n2).1]
        omega
theorem WCN_eq (hw : ∀ j, p ≤ j → j < p2 → W2 j = W j) (h : WCN Nk K nm W p p2 a) : WCN Nk K nm W2 p p2 a := fun j h1 h2 h3 => by rw [hw j h1 h2]; exact h j h1 h2 h3
theorem HDw_tr (l1 : p ≤ p2) (l2 : p2 ≤ p3) (h : HDw own nm Nk K W p p2 a b) (k : HDw own nm Nk K W p2 p3 b c) : HDw own nm Nk K W p p3 a c := ⟨HDo_tr l1 l2 h.1 k.1, fun o => ⟨WCN_cat (h.2 o).1 (k.2 o).1 (h.2 o).2, NWX_tr (h.2 o).2 (k.2 o).2⟩⟩
theorem HDw_w (hw : ∀ j, p ≤ j → j < p2 → W2 j = W j) (h : HDw own nm Nk K W p p2 a b) : HDw own nm Nk K W2 p p2 a b := ⟨HDo_w hw h.1, fun o => ⟨WCN_eq hw (h.2 o).1, (h.2 o).2⟩⟩
theorem HDw_gap (h : ∀ j, p ≤ j → j < p2 → K j ≠ 3) : HDw own nm Nk K W p p2 sc sc := ⟨HDo_gap h, fun _ => ⟨fun j a b c => absurd c (h j a b), NWX_rf⟩⟩
theorem rfP_dw (ok : SOK (e :: t)) (hN : Nk p = x) (hK : K p = 3) (hm : nm x ≠ 0) (hW : W p = rfL own x (e :: t)) (hl : t.length ≤ 26) : HDw own nm Nk K W p (p + 1) (e :: t) (rfP own x (e :: t)) := by
  refine ⟨rfP_do ok hN hK hW hl, fun o => ?_⟩
  subst o
  have el : (e :: t).length = t.length + 1 := rfl
  cases hf : fnb x (e :: t) with
  | false =>
    obtain ⟨r1, r2, r3⟩ := rf_n hf
    rw [r1]
    refine ⟨fun j a b c => ?_, List.prefix_append _ _, BDs_rf, fun y hy => ?_⟩
    · have : j = p := by omega
      subst this
      rw [hN, hf, hW, r3]
      exact ⟨fun _ z => (by cases z), fun _ => by omega⟩
    · rcases List.mem_append.mp hy with z | z
      · exact Or.inl z
      · rw [List.mem_singleton.mp z]; exact Or.inr hf
  | true =>
    obtain ⟨r1, r2, r3⟩ := rf_y hf
    rw [r1]
    have bd : NWd (e :: t) (hld x (e :: t)) := by
      have sx := hld_SCX (x := x) (sc := e :: t) (fun z => by cases z)
      unfold hld at sx ⊢
      split
      · exact NWX_rf
      · next c1 =>
        rw [if_neg c1] at sx
        split
        · next c2 =>
          rw [if_pos c2] at sx
          exact ⟨List.prefix_rfl, sx.2.2, fun y hy => Or.inl hy⟩
        · exact NWX_rf
    refine ⟨fun j a b c => ?_, bd⟩
    have : j = p := by omega
    subst this
    rw [hN, hf, hW, r3]
    exact ⟨fun _ _ => rfl, fun z => by
      rcases z with z | z
      · exact absurd z hm
      · cases z⟩
end
end
section
set_option maxRecDepth 100000
def STV (m0 w0 : MS) (p : Nat) : Prop := ∃ fr s0 b l : Nat, m0.2.2.1 7 p = I (fr : Nat) ∧ w0.2.2.1 7 p = I (s0 : Nat) ∧ s0 ≤ 2001 ∧ A w0 19 s0 = ((b : Nat) : Int) ∧ A w0 19 (s0 + 1) = ((b + l : Nat) : Int) ∧ l ≤ 40 ∧ fr + l ≤ 4000 ∧ (∀ (N : Nat) (m : MS) (k : Nat), FRC m0 m → k < l → ∃ x : Int32, hm_To_signAt N m (I ((fr + k : Nat) : Int)) = some (m, x) ∧ x ≠ 34 ∧ x.toInt = A w0 18 (b + k)) ∧ (l < 40 → ∀ (N : Nat) (m : MS), FRC m0 m → hm_To_signAt N m (I ((fr + l : Nat) : Int)) = some (m, 34))
def CTV (m0 w0 : MS) (K : Nat → Nat) (T : Nat) : Prop := ∀ p, p < T → m0.2.2.1 8 p = w0.2.2.1 8 p ∧ (K p = 1 ∨ K p = 2 → m0.2.2.1 7 p = w0.2.2.1 7 p) ∧ (K p = 4 → STV m0 w0 p)
def hdS (sc : SCT) : List Nat × List Nat × Nat := sc.headD ([], [], 0)
def Onm (nm : Nat → Nat) (sc : SCT) : List Nat := (hdS sc).1.map nm
def PCS (m0 : MS) (nm : Nat → Nat) (m : MS) (a cm : Nat) (sc : SCT) (own : Bool) : Prop := FRC m0 m ∧ CNs m nm sc ∧ (m.1 441 = I (a : Nat) ∧ 1 ≤ a ∧ a ≤ 23990) ∧ decide (m.1 713 = 0) = !own ∧ m.2.2.1 41 (sc.length - 1) = I (cm : Nat) ∧ cm ≤ 4000 ∧ (hdS sc).1.length ≤ cm
def PRd (w0 : MS) (T : Nat) (w : MS) (p pi : Nat) (sc : SCT) : Prop := Ktc w0 w ∧ (w.1 69 = I (p : Nat) ∧ p ≤ T) ∧ w.1 67 = 0 ∧ RNs w sc ∧ HFl w sc ∧ w.1 39 = I (pi : Nat) ∧ pi ≤ 5000
def NMX (cm cm2 : Nat) : SCT → SCT → Prop
  | e :: t, e2 :: t2 => e.1 <+: e2.1 ∧ BDs t t2 ∧ cm ≤ cm2
  | _, _ => False
def CFP (m m2 : MS) (a s : Nat) : Prop := (∀ k, k ≠ 441 → k ≠ 706 → m2.1 k = m.1 k) ∧ (∀ k, k ≠ 23 → k ≠ 39 → k ≠ 41 → k ≠ 42 → m2.2.2.1 k = m.2.2.1 k) ∧ (∀ j, j < a → m2.2.2.1 23 j = m.2.2.1 23 j) ∧ ∀ j, j ≠ s → m2.2.2.1 41 j = m.2.2.1 41 j
def RFP (w w2 : MS) (pi : Nat) : Prop := (∀ k, k ≠ 39 → k ≠ 66 → k ≠ 69 → w2.1 k = w.1 k) ∧ (∀ k, k < 33 ∨ (38 < k ∧ k < 59) ∨ 64 < k → w2.2.2.1 k = w.2.2.1 k) ∧ (∀ k q, q < pi → k < 59 → w2.2.2.1 k q = w.2.2.1 k q) ∧ (∀ k q, q < pi ∨ k ≠ 34 → w2.2.2.2 k q = w.2.2.2 k q)
def AGC (C : Nat → Int) (m : MS) (a b : Nat) : Prop := ∀ k, a ≤ k → k < b → C k = A m 23 k
def GRS (R : Nat → Nat → Int) (w0 : MS) : Prop := ∀ k i, k = 8 ∨ k = 18 ∨ k = 19 → R k i = A w0 k i
def AGP (R : Nat → Nat → Int) (J : Nat → Int64) (w : MS) (pi pj pn : Nat) : Prop := ∀ q, pi ≤ q → q < pj → R 33 q = A w 33 q ∧ R 35 q = A w 35 q ∧ R 36 q = A w 36 q ∧ R 38 q = A w 38 q ∧ J q = w.2.2.2 34 q ∧ (q ≠ pn → R 37 q = A w 37 q)
def HPX (nm : Nat → Nat) (sc : SCT) (H : List Nat) : Prop := ((hdS sc).2.1.map nm) <+: H ∧ H.length ≤ 40
def PTZ (m0 w0 : MS) (K : Nat → Nat) (T : Nat) (nm Nk : Nat → Nat) (f lo hi : Nat) (own : Bool) (a cm pi : Nat) (sc : SCT) (m w m2 : MS) (_ : Unit) (w2 : MS) (r : Int32) : Prop := ∃ (pn b pj cm2 : Nat) (sc2 : SCT) (W : Nat → Nat), r = I (pn : Nat) ∧ (pi ≤ pn ∧ pn < pj ∧ w2.2.2.1 37 pn = -1) ∧ a < b ∧ PCS m0 nm m2 b cm2 sc2 own ∧ PRd w0 T w2 hi pj sc2 ∧ (NMX cm cm2 sc sc2 ∧ tot sc2 ≤ tot sc + (hi - lo)) ∧ HDw own nm Nk K W lo hi sc sc2 ∧ m2.2.2.1 42 = wup (m.2.2.1 42) K W lo hi ∧ CFP m m2 a (sc.length - 1) ∧ RFP w w2 pi ∧ ∀ C R J H, AGC C m2 a b → GRS R w0 → AGP R J w2 pi pj pn → HPX nm sc2 H → PTs C R J H f a pn (Onm nm sc) b (Onm nm sc2)
section
variable {α β : Type} {m0 w0 m w m1 w1 m2 w2 m3 w3 : MS} {K nm Nk W W2 : Nat → Nat} {T p a b cm cm2 cm3 pi pj N n lo hi s k : Nat} {sc sc2 sc3 : SCT} {own : Bool} {R : MS → α → MS → β → Prop} {A' : Option (MS × α)} {B' : Option (MS × β)}
theorem CFP_rf : CFP m m a s := ⟨fun _ _ _ => rfl, fun _ _ _ _ _ => rfl, fun _ _ => rfl, fun _ _ => rfl⟩
theorem CFP_tr (h : CFP m m2 a s) (k : CFP m2 m3 b s) (hab : a ≤ b) : CFP m m3 a s := ⟨fun j h1 h2 => (k.1 j h1 h2).trans (h.1 j h1 h2), fun j h1 h2 h3 h4 => (k.2.1 j h1 h2 h3 h4).trans (h.2.1 j h1 h2 h3 h4), fun j hj => (k.2.2.1 j (by omega)).trans (h.2.2.1 j hj), fun j hj => (k.2.2.2 j hj).trans (h.2.2.2 j hj)⟩
theorem CFP_put {x : Int32} (h : CFP m m2 a s) (hab : a ≤ b) : CFP m (ptc m2 b x) a s := ⟨fun j h1 h2 => by rw [ptc_i h1]; exact h.1 j h1 h2, fun j h1 h2 h3 h4 => by rw [ptc_r h1]; exact h.2.1 j h1 h2 h3 h4, fun j hj => by rw [ptc_o (by omega)]; exact h.2.2.1 j hj, fun j hj => by rw [ptc_r (by decide)]; exact h.2.2.2 j hj⟩
theorem RFP_rf : RFP w w pi := ⟨fun _ _ _ _ => rfl, fun _ _ => rfl, fun _ _ _ _ => rfl, fun _ _ _ => rfl⟩
theorem RFP_tr (h : RFP w w2 pi) (k : RFP w2 w3 pj) (hab : pi ≤ pj) : RFP w w3 pi := ⟨fun j h1 h2 h3 => (k.1 j h1 h2 h3).trans (h.1 j h1 h2 h3), fun j hj => (k.2.1 j hj).trans (h.2.1 j hj), fun j q hq hj => (k.2.2.1 j q (by omega) hj).trans (h.2.2.1 j q hq hj), fun j q hq => (k.2.2.2 j q (by omega)).trans (h.2.2.2 j q hq)⟩
theorem RFP_I {v : Int32} (h : RFP w w2 pi) (hk : k = 39 ∨ k = 66 ∨ k = 69) : RFP w (upI w2 k v) pi := ⟨fun j h1 h2 h3 => by rw [upI_ne (by omega)]; exact h.1 j h1 h2 h3, h.2⟩
theorem RFP_P {x : Int32} (h : RFP w w2 pi) (hp : pi ≤ pj) : RFP w (nPd w2 pj x) pi := ⟨fun j h1 h2 h3 => by rw [nwP_i h1]; exact h.1 j h1 h2 h3, fun j hj => by rw [nwP_r (by omega)]; exact h.2.1 j hj, fun j q hq hj => by rw [nwP_o (by omega)]; exact h.2.2.1 j q hq hj, fun j q hq => by rw [nwP_j (by omega)]; exact h.2.2.2 j q hq⟩
theorem RFP_A {q : Nat} {v : Int32} (h : RFP w w2 pi) (hk : 35 ≤ k ∧ k ≤ 38) (hq : pi ≤ q) : RFP w (upA w2 k (upd (w2.2.2.1 k) q v)) pi := ⟨fun j h1 h2 h3 => h.1 j h1 h2 h3, fun j hj => by rw [upA_no (by omega)]; exact h.2.1 j hj, fun j r hr hj => by
  by_cases z : j = k
  · rw [z, upA_at, upd_no (by omega)]; exact h.2.2.1 k r hr (by omega)
  · rw [upA_no z]; exact h.2.2.1 j r hr hj, h.2.2.2⟩
theorem RFP_J {q : Nat} {v : Int64} (h : RFP w w2 pi) (hq : pi ≤ q) : RFP w (upJ w2 34 (vp_updL (w2.2.2.2 34) q v)) pi := ⟨fun j h1 h2 h3 => h.1 j h1 h2 h3, h.2.1, h.2.2.1, fun j r hr => by
  show (if j = 34 then vp_updL (w2.2.2.2 34) q v else w2.2.2.2 j) r = _
  by_cases z : j = 34
  · rw [if_pos z]
    have : r ≠ q := by omega
    show (if r = q then v else w2.2.2.2 34 r) = _
    rw [if_neg this, z]
    exact h.2.2.2 34 r (by omega)
  · rw [if_neg z]; exact h.2.2.2 j r hr⟩
theorem PRS_k (h : PRd w0 T w p pi sc) (hi : ∀ k, k ≠ 39 → k ≠ 66 → k ≠ 69 → w2.1 k = w.1 k) (hr : ∀ k, k < 33 ∨ 38 < k → w2.2.2.1 k = w.2.2.1 k) (h69 : w2.1 69 = I (n : Nat)) (hn : n ≤ T) (h39 : w2.1 39 = I (pj : Nat)) (hj : pj ≤ 5000) : PRd w0 T w2 n pj sc := by
  obtain ⟨h1, h2, h3, h4, h5, h6⟩ := h
  refine ⟨⟨fun k hk => ?_, fun k hk => ?_⟩, ⟨h69, hn⟩, by rw [hi 67 (by decide) (by decide) (by decide)]; exact h3, RNs_e h4 (hi 65 (by decide) (by decide) (by decide)) (fun k a b => hr k (by omega)), HFl_fr h4.2.2.2 h5 (fun j _ => by rw [hr 62 (by omega)]), h39, hj⟩
  · rw [hi k (by rintro rfl; revert hk; decide) (by rintro rfl; revert hk; decide) (by rintro rfl; revert hk; decide)]; exact h1.1 k hk
  · have : k < 33 := by unfold TRW at hk; simp only [List.mem_cons, List.not_mem_nil, or_false] at hk; omega
    rw [hr k (by omega)]; exact h1.2 k hk
theorem PRS_w (c : CTZ m0 w0 K T nm Nk) (h : PRd w0 T w p pi sc) : WP w K T p := by
  obtain ⟨h1, h2, h3, h4, h5, h6⟩ := h
  exact ⟨⟨c.2.1.1, by rw [h1.2 6 (by decide)]; exact c.2.1.2.1, by rw [h1.2 7 (by decide)]; exact c.2.1.2.2⟩, h2⟩
theorem r_opens {g : MS → Unit → Option (MS × β)} (h : PP R A' (g (upI w 70 (w.1 70 + 1)) ())) : PP R A' (bnd (km_M_opens N w) g) := by
  unfold km_M_opens kb_M_opens_0 kb_M_opens_14
  cases hb : decide (w.1 70 < 25) with
  | true => exact h
  | false => exact pp_nr
theorem tre (fr : FRC m0 m) (hk : k < 22) {v : Int} (h : A m0 k n = v) : m.2.2.1 k n = I v := by
  rw [fr.2 k (by omega), ← h]
  exact I_A
theorem PCS_put {x : Int32} (h : PCS m0 nm m a cm sc own) (ha : a < 23990) : PCS m0 nm (ptc m a x) (a + 1) cm sc own := by
  obtain ⟨h1, h2, ⟨h3, h3b, h3c⟩, h4, h5, h6⟩ := h
  exact ⟨⟨fun k hk => by rw [ptc_i (by omega)]; exact h1.1 k hk, fun k hk => by rw [ptc_r (by omega)]; exact h1.2 k hk⟩, ⟨by rw [ptc_i (by decide)]; exact h2.1, h2.2.1, by rw [ptc_i (by decide)]; exact h2.2.2.1, h2.2.2.2.1, CNl_fr h2.2.2.2.2 (ptc_r (by decide)) (fun j _ => by rw [ptc_r (by decide)])⟩, ⟨ptc_s, by omega, by omega⟩, by rw [ptc_i (by decide)]; exact h4, by rw [ptc_r (by decide)]; exact h5, h6⟩
theorem NMX_rf {e : List Nat × List Nat × Nat} {t : SCT} : NMX cm cm (e :: t) (e :: t) := ⟨List.prefix_rfl, BDs_rf, Nat.le_refl _⟩
theorem NMX_tr (h : NMX cm cm2 sc sc2) (k : NMX cm2 cm3 sc2 sc3) : NMX cm cm3 sc sc3 := by
  cases sc with
  | nil => exact h.elim
  | cons e t =>
    cases sc2 with
    | nil => exact h.elim
    | cons e2 t2 =>
      cases sc3 with
      | nil => exact k.elim
      | cons e3 t3 => exact ⟨h.1.trans k.1, BDs_tr h.2.1 k.2.1, by have := h.2.2; have := k.2.2; omega⟩
theorem NMX_len (h : NMX cm cm2 sc sc2) : sc2.length = sc.length := by
  cases sc with
  | nil => exact h.elim
  | cons e t =>
    cases sc2 with
    | nil => exact h.elim
    | cons e2 t2 => show t2.length + 1 = t.length + 1; rw [(BDs_len h.2.1).1]
end
end
section
set_option maxRecDepth 100000
def kpB (N : Nat) (S : SG_M_rowPattern) (v1 v2 : Int32) (u8 : MS) : Option (MS × Int32) := ck (inb (u8.1 69) (ln 6)) (br (decide ((u8.2.2.1 6 (u8.1 69).toNatClampNeg) = 2)) (bnd (fm_M_namePattern N u8 v1) (fun u20 r20 => kb_M_patternAt_388 N S () u20 (r20))) (br (decide (v2 = 0)) (ck (inb (u8.1 69) (ln 6)) (br (decide ((u8.2.2.1 6 (u8.1 69).toNatClampNeg) = 4)) (kb_M_patternAt_160 N S () u8 (v2)) (ck (inb (u8.1 69) (ln 6)) (br (decide ((u8.2.2.1 6 (u8.1 69).toNatClampNeg) = 1)) (bnd (fm_M_pattern N u8 3) (fun u16 r16 => ck (inb (u16.1 69) (ln 7)) (bnd (fm_M_term N u16 1 (u16.2.2.1 7 (u16.1 69).toNatClampNeg)) (fun u17 r17 => ck (inb r16 (ln 34)) (lt (upJ u17 34 (vp_updL (u17.2.2.2 34) r16.toNatClampNeg r17)) (fun w18 => lt (upI w18 69 ((w18.1 69) + 1)) (fun w19 => kb_M_patternAt_388 N S () w19 (r16)))))))) (ck (inb (u8.1 69) (ln 6)) (br (decide ((u8.2.2.1 6 (u8.1 69).toNatClampNeg) = 5)) (bnd (fm_M_pattern N u8 4) (fun u13 r13 => ck (inb (u13.1 69) (ln 7)) (ck (inb r13 (ln 35)) (lt (upA u13 35 (upd (u13.2.2.1 35) r13.toNatClampNeg (u13.2.2.1 7 (u13.1 69).toNatClampNeg))) (fun w14 => lt (upI w14 69 ((w14.1 69) + 1)) (fun w15 => kb_M_patternAt_388 N S () w15 (r13))))))) (bnd (fm_M_takeSign N u8 0) (fun u9 r9 => br (decide (r9 = 0)) (bnd (S.1 u9 v1) (fun u10 r10 => kb_M_patternAt_388 N S () u10 (r10))) (bnd (S.2 u9 v1) (fun u11 r11 => bnd (km_M_needSign N u11 1) (fun u12 _ => kb_M_patternAt_388 N S () u12 (r11)))))))))))) (kb_M_patternAt_160 N S () u8 (v2))))
section
variable {α : Type} {m0 w0 m w v u M : MS} {K nm Nk : Nat → Nat} {T p pi N : Nat} {sc t : SCT} {e : List Nat × List Nat × Nat} {own : Bool} {S : SG_M_rowPattern} {v1 v2 r : Int32} {R : MS → α → MS → Int32 → Prop} {A' : Option (MS × α)}
theorem kpA_e (h : WP w K T p) (h0 : w.1 67 = 0) : kb_M_patternAt_0 N S () w v1 = kb_M_patternAt_101 N S () w v1 (if K p = 34 then 1 else 0) (b2c (bPK (K p))) := by
  have k46 := h.1.1.k46 h.2.2
  obtain ⟨a, b, -⟩ := WP_i h
  unfold kb_M_patternAt_0
  rw [decide_eq_true h0, br_tq]
  simp only [isS_e (k := 34) (s := 19) h (by decide) rfl, isS_e (k := 22) (s := 2) h (by decide) rfl, isS_e (k := 24) (s := 4) h (by decide) rfl, isS_e (k := 20) (s := 0) h (by decide) rfl, bnd_s]
  rw [show ln 6 = 4002 from rfl, a, b, srt_dc h srK_1, srt_dc h srK_2, srt_dc h srK_4, srt_dc h srK_5]
  generalize K p = k at k46
  revert k46
  revert k
  intro k h
  match k, h with
  | 0, _ => rfl
  | 1, _ => rfl
  | 2, _ => rfl
  | 3, _ => rfl
  | 4, _ => rfl
  | 5, _ => rfl
  | 6, _ => rfl
  | 7, _ => rfl
  | 8, _ => rfl
  | 9, _ => rfl
  | 10, _ => rfl
  | 11, _ => rfl
  | 12, _ => rfl
  | 13, _ => rfl
  | 14, _ => rfl
  | 15, _ => rfl
  | 16, _ => rfl
  | 17, _ => rfl
  | 18, _ => rfl
  | 19, _ => rfl
  | 20, _ => rfl
  | 21, _ => rfl
  | 22, _ => rfl
  | 23, _ => rfl
  | 24, _ => rfl
  | 25, _ => rfl
  | 26, _ => rfl
  | 27, _ => rfl
  | 28, _ => rfl
  | 29, _ => rfl
  | 30, _ => rfl
  | 31, _ => rfl
  | 32, _ => rfl
  | 33, _ => rfl
  | 34, _ => rfl
  | 35, _ => rfl
  | 36, _ => rfl
  | 37, _ => rfl
  | 38, _ => rfl
  | 39, _ => rfl
  | 40, _ => rfl
  | 41, _ => rfl
  | 42, _ => rfl
  | 43, _ => rfl
  | 44, _ => rfl
  | 45, _ => rfl
  | k + 46, h => exact absurd h (by omega)
theorem kpA (hw : WP w K T p) (h0 : w.1 67 = 0) (hb : bPK (K p) = true) (h : PP R A' (kpB N S v1 (if K p = 34 then 1 else 0) (upI w 70 (w.1 70 + 1)))) : PP R A' (km_M_patternAt N S w v1) := by
  unfold km_M_patternAt
  rw [kpA_e hw h0, hb]
  show PP R A' (br (decide ((1 : Int32) = 0)) _ (bnd (km_M_opens N w) (fun u8 _ => kpB N S v1 (if K p = 34 then 1 else 0) u8)))
  rw [show decide ((1 : Int32) = 0) = false from rfl, br_fq]
  exact r_opens h
theorem add_sub1 {x : Int32} : x + 1 - 1 = x := by
  rw [I_of x, lit1q, I_add, I_sub]
  congr 1
  omega
theorem cl70 (h : RFP (upI w 70 (w.1 70 + 1)) v pi) : RFP w (upI v 70 (v.1 70 - 1)) pi := by
  have e70 : v.1 70 = w.1 70 + 1 := (h.1 70 (by decide) (by decide) (by decide)).trans upI_at
  refine ⟨fun k h1 h2 h3 => ?_, h.2⟩
  by_cases z : k = 70
  · rw [z, upI_at, e70, add_sub1]
  · rw [upI_ne z, h.1 k h1 h2 h3, upI_ne z]
def LQp (w0 : MS) (K : Nat → Nat) (p : Nat) (w2 : MS) (pi : Nat) : Prop := w2.2.2.1 37 pi = -1 ∧ ((K p = 1 ∧ A w2 33 pi = 3 ∧ w2.2.2.2 34 pi = mk 0 (A w0 7 p)) ∨ (K p = 2 ∧ A w2 33 pi = 3 ∧ w2.2.2.2 34 pi = mk 1 (A w0 7 p)) ∨ (K p = 4 ∧ A w2 33 pi = 4 ∧ A w2 35 pi = A w0 7 p))
theorem PRS_70 (h : PRd w0 T w p pi sc) {x : Int32} : PRd w0 T (upI w 70 x) p pi sc := by
  obtain ⟨h1, h2, h3, h4, h5, h6⟩ := h
  exact ⟨⟨fun k hk => by rw [upI_ne (fun z => by rw [z] at hk; revert hk; decide)]; exact h1.1 k hk, h1.2⟩, ⟨by rw [upI_ne (by decide)]; exact h2.1, h2.2⟩, by rw [upI_ne (by decide)]; exact h3, RNs_e h4 (upI_ne (by decide)) (fun _ _ _ => rfl), HFl_fr h4.2.2.2 h5 (fun _ _ => rfl), by rw [upI_ne (by decide)]; exact h6.1, h6.2⟩
theorem upI_sf {k : Nat} : upI w k (w.1 k) = w := by
  show ((fun j => if j = k then w.1 k else w.1 j), w.2.1, w.2.2.1, w.2.2.2) = w
  have : (fun j => if j = k then w.1 k else w.1 j) = w.1 := by
    funext j
    by_cases z : j = k
    · rw [if_pos z, z]
    · rw [if_neg z]
  rw [this]
theorem upJ_at {k : Nat} {g : Nat → Int64} : (upJ w k g).2.2.2 k = g := if_pos rfl
theorem updL_at {g : Nat → Int64} {i : Nat} {y : Int64} : vp_updL g i y i = y := if_pos rfl
theorem rp_leaf (c : CTZ m0 w0 K T nm Nk) (hR : PRd w0 T w p pi sc) (hk : K p = 1 ∨ K p = 2 ∨ K p = 4) (hh : ∀ w2, PRd w0 T w2 (p + 1) (pi + 1) sc → RFP w w2 pi → p < T → pi < 5000 → LQp w0 K p w2 pi → PP R A' (some (w2, I (pi : Nat)))) : PP R A' (km_M_patternAt N S w v1) := by
  have hw := PRS_w c hR
  have hl : p < T := c.2.1.1.lt hR.2.1.2 (by omega) (by omega)
  have t4 := c.2.1.1.1
  refine kpA hw hR.2.2.1 (by rcases hk with z | z | z <;> rw [z] <;> rfl) ?_
  rw [if_neg (by omega)]
  have hM := PRS_70 (x := w.1 70 + 1) hR
  have er : (upI w 70 (w.1 70 + 1)).2.2.1 = w.2.2.1 := rfl
  have cl : ∀ (v : MS) (pi : Nat), RFP (upI w 70 (w.1 70 + 1)) v pi → RFP w (upI v 70 (v.1 70 - 1)) pi := fun v pi h => cl70 h
  generalize upI w 70 (w.1 70 + 1) = M at hM er cl
  have k7M : M.2.2.1 7 p = w0.2.2.1 7 p := by rw [er, hR.1.2 7 (by decide)]
  have hM1 := PRS_w c hM
  obtain ⟨a, b, -⟩ := WP_i hM1
  have s2 : decide (M.2.2.1 6 p = 2) = decide (K p = 3) := srt_dc hM1 srK_2
  have s4 : decide (M.2.2.1 6 p = 4) = decide (K p = 1) := srt_dc hM1 srK_4
  have s1 : decide (M.2.2.1 6 p = 1) = decide (K p = 2) := srt_dc hM1 srK_1
  have s5 : decide (M.2.2.1 6 p = 5) = decide (K p = 4) := srt_dc hM1 srK_5
  have h39 := hM.2.2.2.2.2.1
  have hp5 := hM.2.2.2.2.2.2
  have h69 := hM.2.1.1
  have fin : ∀ (v : MS), RFP M v pi → (∀ k, k < 33 ∨ 38 < k → v.2.2.1 k = M.2.2.1 k) → v.1 69 = I (p : Nat) → v.1 39 = I ((pi + 1 : Nat) : Int) → pi < 5000 → LQp w0 K p v pi → PP R A' (lt (upI v 69 (v.1 69 + 1)) (fun w4 => kb_M_patternAt_388 N S () w4 (I (pi : Nat)))) := fun v hf hr h69 h39 h5 hq => by
    unfold kb_M_patternAt_388
    refine r_lt (r_lt ?_)
    rw [h69, i_suc]
    have f1 : RFP M (upI v 69 (I ((p + 1 : Nat) : Int))) pi := RFP_I hf (Or.inr (Or.inr rfl))
    have f2 := cl _ _ f1
    refine hh _ (PRS_k hR f2.1 (fun k hk => ?_) (by rw [upI_ne (by decide)]; exact upI_at) hl (by rw [upI_ne (by decide), upI_ne (by decide)]; exact h39) (by omega)) f2 hl h5 hq
    show v.2.2.1 k = _
    rw [hr k hk, er]
  have nP : ∀ (x : Int32), RFP M (nPd M pi x) pi ∧ (∀ k, k < 33 ∨ 38 < k → (nPd M pi x).2.2.1 k = M.2.2.1 k) ∧ (nPd M pi x).1 69 = I (p : Nat) ∧ (nPd M pi x).1 39 = I ((pi + 1 : Nat) : Int) ∧ (nPd M pi x).2.2.1 7 p = w0.2.2.1 7 p := fun x => ⟨RFP_P RFP_rf (Nat.le_refl _), fun k hk => nwP_r hk, by rw [nwP_i (by decide)]; exact h69, nwP_n, by rw [nwP_r (by omega)]; exact k7M⟩
  unfold kpB
  refine r_ck (fun _ => ?_)
  rw [b, s2, decide_eq_false (by omega), br_fq, show decide ((0 : Int32) = 0) = true from rfl, br_tq]
  refine r_ck (fun _ => ?_)
  rw [s4]
  rcases hk with z | z | z
  · rw [decide_eq_true z, br_tq]
    unfold kb_M_patternAt_160 kb_M_patternAt_178 kb_M_patternAt_199
    rw [show decide ((0 : Int32) = 0) = true from rfl, br_tq]
    refine r_lt (r_ck (fun _ => ?_))
    rw [h69, show upI M 69 (I (p : Nat)) = M by rw [← h69]; exact upI_sf, h69, i_nt (p := p) (by omega), s4, decide_eq_true z, br_tq]
    refine r_pat h39 hp5 rfl (fun h5 => ?_)
    obtain ⟨n1, n2, n3, n4, n5⟩ := nP 3
    have n6 := nwP_at (w := M) (p := pi) (k := 3)
    generalize nPd M pi 3 = v at n1 n2 n3 n4 n5 n6
    rw [br_tq, n3, i_nt (p := p) (by omega), n5]
    refine r_ck (fun _ => ?_)
    unfold kb_M_patternAt_239
    rw [term0_e, bnd_s]
    refine r_ck (fun _ => r_ck (fun _ => r_lt ?_))
    rw [i_nt2 (by omega)]
    refine fin _ (RFP_J n1 (Nat.le_refl _)) n2 n3 n4 h5 ⟨n6.2.2.2.1, Or.inl ⟨z, ?_, ?_⟩⟩
    · show (v.2.2.1 33 pi).toInt = 3
      rw [n6.1]; rfl
    · rw [upJ_at, updL_at]; rfl
  · rw [decide_eq_false (by omega), br_fq]
    refine r_ck (fun _ => ?_)
    rw [s1, decide_eq_true z, br_tq]
    refine r_pat h39 hp5 rfl (fun h5 => ?_)
    obtain ⟨n1, n2, n3, n4, n5⟩ := nP 3
    have n6 := nwP_at (w := M) (p := pi) (k := 3)
    generalize nPd M pi 3 = v at n1 n2 n3 n4 n5 n6
    refine r_ck (fun _ => ?_)
    rw [n3, i_nt (p := p) (by omega), n5, I_of (w0.2.2.1 7 p), lit1q, term_e, bnd_s]
    refine r_ck (fun _ => r_lt ?_)
    rw [i_nt2 (by omega)]
    refine fin _ (RFP_J n1 (Nat.le_refl _)) n2 n3 n4 h5 ⟨n6.2.2.2.1, Or.inr (Or.inl ⟨z, ?_, ?_⟩)⟩
    · show (v.2.2.1 33 pi).toInt = 3
      rw [n6.1]; rfl
    · rw [upJ_at, updL_at]; rfl
  · rw [decide_eq_false (by omega), br_fq]
    refine r_ck (fun _ => ?_)
    rw [s1, decide_eq_false (by omega), br_fq]
    refine r_ck (fun _ => ?_)
    rw [s5, decide_eq_true z, br_tq]
    refine r_pat h39 hp5 rfl (fun h5 => ?_)
    obtain ⟨n1, n2, n3, n4, n5⟩ := nP 4
    have n6 := nwP_at (w := M) (p := pi) (k := 4)
    generalize nPd M pi 4 = v at n1 n2 n3 n4 n5 n6
    refine r_ck (fun _ => r_ck (fun _ => r_lt ?_))
    rw [n3, i_nt (p := p) (by omega), n5, i_nt2 (by omega)]
    refine fin _ (RFP_A n1 (by decide) (Nat.le_refl _)) (fun k hk => by rw [upA_no (by omega)]; exact n2 k hk) n3 n4 h5 ⟨by rw [upA_no (by decide)]; exact n6.2.2.2.1, Or.inr (Or.inr ⟨z, ?_, ?_⟩)⟩
    · show ((upA v 35 _).2.2.1 33 pi).toInt = 4
      rw [upA_no (by decide), n6.1]; rfl
    · show ((upA v 35 _).2.2.1 35 pi).toInt = _
      rw [upA_at, upd_at]; rfl
end
end
section
set_option maxRecDepth 100000
def NQp (nm : Nat → Nat) (own : Bool) (x : Nat) (sc sc2 : SCT) (w2 : MS) (pi : Nat) : Prop := w2.2.2.1 37 pi = -1 ∧ ((nm x = 0 ∧ sc2 = sc ∧ A w2 33 pi = 0) ∨ (nm x ≠ 0 ∧ sc2 = rfP own x sc ∧ ((rfL own x sc = 32 ∧ x ∉ (hdS sc).1 ∧ sc2 = bnS x sc ∧ A w2 33 pi = 1) ∨ (rfL own x sc ≠ 32 ∧ (hdS sc2).1 = (hdS sc).1 ∧ A w2 33 pi = 2 ∧ LKt sc2 x (A w2 35 pi)))))
section
variable {α : Type} {m0 w0 m w v u M : MS} {K nm Nk : Nat → Nat} {T p pi N x : Nat} {sc t : SCT} {e : List Nat × List Nat × Nat} {own : Bool} {S : SG_M_rowPattern} {v1 v2 r : Int32} {R : MS → α → MS → Int32 → Prop} {A' : Option (MS × α)}
theorem LKt_ti {i : Int} (ok : SOK sc) (h : LKt sc x i) : LKt sc x (I i).toInt := by
  cases sc with
  | nil => exact h.elim
  | cons e t =>
    obtain ⟨⟨n1, n2, n3, n4, n5, n6, n7⟩, ok2⟩ := ok
    have l1 := nd_len 1400 _ n1 n2
    rcases h with ⟨k, a, b⟩ | ⟨a, ⟨k, b, c⟩ | b⟩
    · have := (List.getElem?_eq_some_iff.mp b).1
      exact Or.inl ⟨k, by rw [a]; exact I_ti (by omega) (by omega), b⟩
    · have := (List.getElem?_eq_some_iff.mp c).1
      exact Or.inr ⟨a, Or.inl ⟨k, by rw [b]; exact I_ti (by omega) (by omega), c⟩⟩
    · exact Or.inr ⟨a, Or.inr b⟩
theorem rp_neg (c : CTZ m0 w0 K T nm Nk) (hR : PRd w0 T w p pi sc) (hk : K p = 34) (hk1 : K (p + 1) = 1) (hh : ∀ w2, PRd w0 T w2 (p + 2) (pi + 1) sc → RFP w w2 pi → p + 1 < T → pi < 5000 → w2.2.2.1 37 pi = -1 ∧ A w2 33 pi = 3 ∧ w2.2.2.2 34 pi = mk 0 (-(w0.2.2.1 7 (p + 1))).toInt → PP R A' (some (w2, I (pi : Nat)))) : PP R A' (km_M_patternAt N S w v1) := by
  have hw := PRS_w c hR
  have hl0 : p < T := c.2.1.1.lt hR.2.1.2 (by omega) (by omega)
  have hl : p + 1 < T := c.2.1.1.lt hl0 (by omega) (by omega)
  have t4 := c.2.1.1.1
  refine kpA hw hR.2.2.1 (by rw [hk]; rfl) ?_
  rw [if_pos hk]
  have hM := PRS_70 (x := w.1 70 + 1) hR
  have er : (upI w 70 (w.1 70 + 1)).2.2.1 = w.2.2.1 := rfl
  have cl : ∀ (v : MS) (pi : Nat), RFP (upI w 70 (w.1 70 + 1)) v pi → RFP w (upI v 70 (v.1 70 - 1)) pi := fun v pi h => cl70 h
  generalize upI w 70 (w.1 70 + 1) = M at hM er cl
  have hM1 := PRS_w c hM
  obtain ⟨a, b, -⟩ := WP_i hM1
  have s2 : decide (M.2.2.1 6 p = 2) = decide (K p = 3) := srt_dc hM1 srK_2
  have h39 := hM.2.2.2.2.2.1
  have hp5 := hM.2.2.2.2.2.2
  have h69 := hM.2.1.1
  unfold kpB
  refine r_ck (fun _ => ?_)
  rw [b, s2, decide_eq_false (by omega), br_fq, show decide ((1 : Int32) = 0) = false from rfl, br_fq]
  unfold kb_M_patternAt_160 kb_M_patternAt_178 kb_M_patternAt_199
  rw [show decide ((1 : Int32) = 0) = false from rfl, br_fq]
  refine r_lt (r_ck (fun _ => ?_))
  rw [h69, i_suc]
  have hV : PRd w0 T (upI M 69 (I ((p + 1 : Nat) : Int))) (p + 1) pi sc := PRS_k hM (fun k h1 h2 h3 => upI_ne h3) (fun _ _ => rfl) upI_at hl0 (by rw [upI_ne (by decide)]; exact h39) hp5
  have fV : RFP M (upI M 69 (I ((p + 1 : Nat) : Int))) pi := RFP_I RFP_rf (Or.inr (Or.inr rfl))
  have eV : (upI M 69 (I ((p + 1 : Nat) : Int))).2.2.1 = w.2.2.1 := er
  generalize upI M 69 (I ((p + 1 : Nat) : Int)) = V at hV fV eV
  have hV1 := PRS_w c hV
  have s4 : decide (V.2.2.1 6 (p + 1) = 4) = decide (K (p + 1) = 1) := srt_dc hV1 srK_4
  have v69 := hV.2.1.1
  rw [v69, i_nt (p := p + 1) (by omega), s4, decide_eq_true hk1, br_tq]
  refine r_pat hV.2.2.2.2.2.1 hp5 rfl (fun h5 => ?_)
  have n1 : RFP M (nPd V pi 3) pi := RFP_P fV (Nat.le_refl _)
  have n2 : ∀ k, k < 33 ∨ 38 < k → (nPd V pi 3).2.2.1 k = w.2.2.1 k := fun k hk => by rw [nwP_r hk, eV]
  have n3 : (nPd V pi 3).1 69 = I ((p + 1 : Nat) : Int) := by rw [nwP_i (by decide)]; exact v69
  have n4 : (nPd V pi 3).1 39 = I ((pi + 1 : Nat) : Int) := nwP_n
  have n6 := nwP_at (w := V) (p := pi) (k := 3)
  have n5 : (nPd V pi 3).2.2.1 7 (p + 1) = w0.2.2.1 7 (p + 1) := by rw [n2 7 (by omega), hR.1.2 7 (by decide)]
  generalize nPd V pi 3 = v at n1 n2 n3 n4 n5 n6
  rw [br_fq, n3, i_nt (p := p + 1) (by omega), n5]
  refine r_ck (fun _ => ?_)
  unfold kb_M_patternAt_239
  rw [term0_e, bnd_s]
  refine r_ck (fun _ => r_ck (fun _ => r_lt (r_lt ?_)))
  rw [i_nt2 (by omega)]
  unfold kb_M_patternAt_388
  refine r_lt ?_
  have f1 : RFP M (upI (upJ v 34 (vp_updL (v.2.2.2 34) pi (mk 0 (-(w0.2.2.1 7 (p + 1))).toInt))) 69 (I ((p + 2 : Nat) : Int))) pi := RFP_I (RFP_J n1 (Nat.le_refl _)) (Or.inr (Or.inr rfl))
  have f2 := cl _ _ f1
  have e69 : (upJ v 34 (vp_updL (v.2.2.2 34) pi (mk 0 (-(w0.2.2.1 7 (p + 1))).toInt))).1 69 + 1 = I ((p + 2 : Nat) : Int) := by
    show v.1 69 + 1 = _
    rw [n3, i_suc]
  rw [e69]
  refine hh _ (PRS_k hR f2.1 (fun k hk => n2 k hk) (by rw [upI_ne (by decide)]; exact upI_at) (by omega) (by rw [upI_ne (by decide), upI_ne (by decide)]; exact n4) (by omega)) f2 hl h5 ⟨n6.2.2.2.1, ?_, ?_⟩
  · show (v.2.2.1 33 pi).toInt = 3
    rw [n6.1]; rfl
  · show (upJ v 34 _).2.2.2 34 pi = _
    rw [upJ_at, updL_at]
theorem HFl_bn (h : HFl w (e :: t)) (h62 : v.2.2.1 62 = w.2.2.1 62) (ok : SOK t) : HFl v (bnS x (e :: t)) := ⟨fun k y hk => by rw [h62]; exact h.1 k y hk, HFl_fr ok h.2 (fun j _ => by rw [h62])⟩
theorem RFP_n {w2 : MS} (h : RFP w v pi) (hi : ∀ k, k ≠ 66 → w2.1 k = v.1 k) (hr : ∀ k, k < 59 ∨ 64 < k → w2.2.2.1 k = v.2.2.1 k) (hj : w2.2.2.2 = v.2.2.2) : RFP w w2 pi := ⟨fun k h1 h2 h3 => by rw [hi k h2]; exact h.1 k h1 h2 h3, fun k hk => by rw [hr k (by omega)]; exact h.2.1 k hk, fun k q hq hk => by rw [hr k (by omega)]; exact h.2.2.1 k q hq hk, fun k q hq => by rw [hj]; exact h.2.2.2 k q hq⟩
theorem PRS_n {w2 : MS} {sc2 : SCT} (h : PRd w0 T w p pi sc) (hi : ∀ k, k ≠ 66 → w2.1 k = w.1 k) (hr : ∀ k, k < 59 → w2.2.2.1 k = w.2.2.1 k) (hn : RNs w2 sc2) (hf : HFl w2 sc2) : PRd w0 T w2 p pi sc2 := by
  obtain ⟨h1, h2, h3, h4, h5, h6⟩ := h
  refine ⟨⟨fun k hk => ?_, fun k hk => ?_⟩, ⟨by rw [hi 69 (by decide)]; exact h2.1, h2.2⟩, by rw [hi 67 (by decide)]; exact h3, hn, hf, by rw [hi 39 (by decide)]; exact h6.1, h6.2⟩
  · rw [hi k (fun z => by rw [z] at hk; revert hk; decide)]; exact h1.1 k hk
  · have : k < 33 := by unfold TRW at hk; simp only [List.mem_cons, List.not_mem_nil, or_false] at hk; omega
    rw [hr k (by omega)]; exact h1.2 k hk
theorem rp_name (c : CTZ m0 w0 K T nm Nk) (hR : PRd w0 T w p pi (e :: t)) (hk : K p = 3) (ho : decide (v1 = 0) = !own) (hh : ∀ w2 sc2, PRd w0 T w2 (p + 1) (pi + 1) sc2 → RFP w w2 pi → p < T → pi < 5000 → NQp nm own (Nk p) (e :: t) sc2 w2 pi → PP R A' (some (w2, I (pi : Nat)))) : PP R A' (km_M_patternAt N S w v1) := by
  have hw := PRS_w c hR
  have hl : p < T := c.2.1.1.lt hR.2.1.2 (by omega) (by omega)
  have t4 := c.2.1.1.1
  obtain ⟨-, c7, cx, cu⟩ := c.2.2.2 p hl hk
  refine kpA hw hR.2.2.1 (by rw [hk]; rfl) ?_
  have hM := PRS_70 (x := w.1 70 + 1) hR
  have er : (upI w 70 (w.1 70 + 1)).2.2.1 = w.2.2.1 := rfl
  have cl : ∀ (v : MS) (pi : Nat), RFP (upI w 70 (w.1 70 + 1)) v pi → RFP w (upI v 70 (v.1 70 - 1)) pi := fun v pi h => cl70 h
  generalize upI w 70 (w.1 70 + 1) = M at hM er cl
  have hM1 := PRS_w c hM
  obtain ⟨a, b, -⟩ := WP_i hM1
  have h69 := hM.2.1.1
  have h39 := hM.2.2.2.2.2.1
  have hp5 := hM.2.2.2.2.2.2
  have hn := hM.2.2.2.1
  have hf := hM.2.2.2.2.1
  have ok := hn.2.2.2
  have k7 : M.2.2.1 7 p = I (Nk p : Nat) := by rw [hM.1.2 7 (by decide)]; exact c7
  have hu : UND M (Nk p) ↔ nm (Nk p) = 0 := by
    rw [← cu]
    unfold UND
    rw [hM.1.2 16 (by decide), hM.1.2 15 (by decide)]
  have fin : ∀ (v : MS) (sc2 : SCT), PRd w0 T v p (pi + 1) sc2 → RFP M v pi → pi < 5000 → NQp nm own (Nk p) (e :: t) sc2 v pi → PP R A' (bnd (fb_M_namePattern_105 N () v (I (pi : Nat))) (fun u20 r20 => kb_M_patternAt_388 N S () u20 r20)) := fun v sc2 hv hf h5 hq => by
    unfold fb_M_namePattern_105 kb_M_patternAt_388
    rw [lt_e, bnd_s, hv.2.1.1, i_suc]
    refine r_lt ?_
    have f2 := cl _ _ (RFP_I (v := I ((p + 1 : Nat) : Int)) hf (k := 69) (Or.inr (Or.inr rfl)))
    obtain ⟨h1, h2, h3, h4, h5b, h6⟩ := hv
    have p69 : PRd w0 T (upI v 69 (I ((p + 1 : Nat) : Int))) (p + 1) (pi + 1) sc2 := ⟨⟨fun k hk => by rw [upI_ne (fun z => by rw [z] at hk; revert hk; decide)]; exact h1.1 k hk, h1.2⟩, ⟨upI_at, hl⟩, by rw [upI_ne (by decide)]; exact h3, RNs_e h4 (upI_ne (by decide)) (fun _ _ _ => rfl), HFl_fr h4.2.2.2 h5b (fun _ _ => rfl), by rw [upI_ne (by decide)]; exact h6.1, h6.2⟩
    exact hh _ sc2 (PRS_70 p69) f2 hl h5 hq
  have nP : ∀ (v : MS) (sc2 : SCT) (k : Int32), PRd w0 T v p pi sc2 → RFP M v pi → pi < 5000 → PRd w0 T (nPd v pi k) p (pi + 1) sc2 ∧ RFP M (nPd v pi k) pi := fun v sc2 k hv hf h5 => ⟨PRS_k hv (fun j h1 h2 h3 => nwP_i h1) (fun j hj => nwP_r hj) (by rw [nwP_i (by decide)]; exact hv.2.1.1) (by omega) nwP_n (by omega), RFP_P hf (Nat.le_refl _)⟩
  have e61 : ∀ (v : MS) (sc2 : SCT) (r6 : Int32), PRd w0 T v p pi sc2 → RFP M v pi → v.2.2.1 7 p = I (Nk p : Nat) → nm (Nk p) ≠ 0 → ((r6 = -1 ∧ sc2 = e :: t ∧ Nk p ∉ e.1 ∧ rfP own (Nk p) (e :: t) = bnS (Nk p) (e :: t) ∧ rfL own (Nk p) (e :: t) = 32) ∨ (r6 ≠ -1 ∧ sc2 = rfP own (Nk p) (e :: t) ∧ rfL own (Nk p) (e :: t) ≠ 32 ∧ (hdS sc2).1 = e.1 ∧ LKt sc2 (Nk p) r6.toInt)) → PP R A' (bnd (fb_M_namePattern_61 N () v r6) (fun u20 r20 => kb_M_patternAt_388 N S () u20 r20)) := fun v sc2 r6 hv hf h7 h0 hq => by
    unfold fb_M_namePattern_61 fb_M_namePattern_73 fb_M_namePattern_104
    rcases hq with ⟨q1, q2, q3, q4, q5⟩ | ⟨q1, q2, q3, q4, q5⟩
    · rw [decide_eq_true q1, br_tq, pat_e hv.2.2.2.2.2.1 hp5 rfl]
      by_cases h5 : pi < 5000
      · rw [if_pos h5]
        obtain ⟨n1, n2⟩ := nP v sc2 1 hv hf h5
        have n6 := nwP_at (w := v) (p := pi) (k := 1)
        have n7 : (nPd v pi 1).2.2.1 7 p = I (Nk p : Nat) := by rw [nwP_r (by omega)]; exact h7
        generalize nPd v pi 1 = V at n1 n2 n6 n7
        show PP R A' (bnd (ck (inb (V.1 69) (ln 7)) (bnd (fm_M_bind N V (V.2.2.1 7 (V.1 69).toNatClampNeg)) _)) _)
        rw [n1.2.1.1, i_nt (p := p) (by omega), n7]
        cases hb : inb (I (p : Nat)) (ln 7) with
        | false => exact pp_nr
        | true =>
          rw [ck_t]
          subst q2
          cases hx : fm_M_bind N V (I (Nk p : Nat)) with
          | none => exact pp_nr
          | some z =>
            obtain ⟨z1, z2⟩ := z
            obtain ⟨b1, b2, b3, b4⟩ := bind_m (N := N) n1.2.2.2.1 cx q3 z1 z2 hx
            have b5 := yv9_fm_M_bind (u0 := V) Kv9_rf z1 z2 hx
            show PP R A' (bnd (ck (isK 35 4) (ck (inb (I (pi : Nat)) (ln 35)) (lt (upA z1 35 (upd (z1.2.2.1 35) (I (pi : Nat)).toNatClampNeg z2)) (fun w2 => fb_M_namePattern_105 N () w2 (I (pi : Nat)))))) _)
            rw [show isK 35 4 = true from rfl, ck_t]
            cases hb2 : inb (I (pi : Nat)) (ln 35) with
            | false => exact pp_nr
            | true =>
              rw [ck_t, lt_e, i_nt2 (by omega)]
              have p1 : PRd w0 T z1 p (pi + 1) (bnS (Nk p) (e :: t)) := PRS_n n1 (fun k hk => b3 k hk) (fun k hk => b4 k (by omega) (by omega) (by omega)) b1 (HFl_bn n1.2.2.2.2.1 (b4 62 (by decide) (by decide) (by decide)) n1.2.2.2.1.2.2.2.2)
              have f1 : RFP M z1 pi := RFP_n n2 (fun k hk => b3 k hk) (fun k hk => b4 k (by omega) (by omega) (by omega)) b5.1
              have e33 : z1.2.2.1 33 pi = 1 := by rw [b4 33 (by decide) (by decide) (by decide)]; exact n6.1
              refine fin _ (bnS (Nk p) (e :: t)) (PRS_k p1 (fun _ _ _ _ => rfl) (fun k hk => upA_no (by omega)) p1.2.1.1 p1.2.1.2 p1.2.2.2.2.2.1 p1.2.2.2.2.2.2) (RFP_A f1 (by decide) (Nat.le_refl _)) h5 ⟨by rw [upA_no (by decide), b4 37 (by decide) (by decide) (by decide)]; exact n6.2.2.2.1, Or.inr ⟨h0, q4.symm, Or.inl ⟨q5, q3, rfl, ?_⟩⟩⟩
              show ((upA z1 35 _).2.2.1 33 pi).toInt = 1
              rw [upA_no (by decide), e33]; rfl
      · rw [if_neg h5]
        exact pp_nr
    · rw [decide_eq_false q1, br_fq, pat_e hv.2.2.2.2.2.1 hp5 rfl]
      by_cases h5 : pi < 5000
      · rw [if_pos h5]
        obtain ⟨n1, n2⟩ := nP v sc2 2 hv hf h5
        have n6 := nwP_at (w := v) (p := pi) (k := 2)
        generalize nPd v pi 2 = V at n1 n2 n6
        show PP R A' (bnd (ck (isK 35 4) (ck (inb (I (pi : Nat)) (ln 35)) (lt (upA V 35 (upd (V.2.2.1 35) (I (pi : Nat)).toNatClampNeg r6)) (fun w2 => fb_M_namePattern_105 N () w2 (I (pi : Nat)))))) _)
        rw [show isK 35 4 = true from rfl, ck_t]
        cases hb2 : inb (I (pi : Nat)) (ln 35) with
        | false => exact pp_nr
        | true =>
          rw [ck_t, lt_e, i_nt2 (by omega)]
          refine fin _ sc2 (PRS_k n1 (fun _ _ _ _ => rfl) (fun k hk => upA_no (by omega)) n1.2.1.1 n1.2.1.2 n1.2.2.2.2.2.1 n1.2.2.2.2.2.2) (RFP_A n2 (by decide) (Nat.le_refl _)) h5 ⟨by rw [upA_no (by decide)]; exact n6.2.2.2.1, Or.inr ⟨h0, q2, Or.inr ⟨q3, q4, ?_, ?_⟩⟩⟩
          · show ((upA V 35 _).2.2.1 33 pi).toInt = 2
            rw [upA_no (by decide), n6.1]; rfl
          · have : A (upA V 35 (upd (V.2.2.1 35) pi r6)) 35 pi = r6.toInt := by
              show ((upA V 35 _).2.2.1 35 pi).toInt = _
              rw [upA_at, upd_at]
            rw [this]
            exact q5
      · rw [if_neg h5]
        exact pp_nr
  unfold kpB
  refine r_ck (fun _ => ?_)
  rw [b, srt_dc hM1 srK_2, decide_eq_true hk, br_tq]
  unfold fm_M_namePattern fb_M_namePattern_0
  rw [h69]
  cases hx : fm_M_isUnderscore N M (I (p : Nat)) with
  | none => exact pp_nr
  | some z =>
    obtain ⟨z1, z2⟩ := z
    obtain ⟨rfl, q⟩ := und_p (N := N) cx (by omega) k7 z1 z2 hx
    rcases q with ⟨q1, q2⟩ | ⟨q1, q2⟩
    · subst q1
      show PP R A' (bnd (br (decide ((1 : Int32) = 0)) _ (bnd (fm_M_pattern N z1 0) (fun u8 r8 => fb_M_namePattern_105 N () u8 r8))) _)
      rw [show decide ((1 : Int32) = 0) = false from rfl, br_fq, pat_e h39 hp5 rfl]
      by_cases h5 : pi < 5000
      · rw [if_pos h5, bnd_s]
        obtain ⟨n1, n2⟩ := nP z1 _ 0 hM RFP_rf h5
        refine fin _ (e :: t) n1 n2 h5 ⟨nwP_at.2.2.2.1, Or.inl ⟨hu.mp q2, rfl, ?_⟩⟩
        show ((nPd z1 pi 0).2.2.1 33 pi).toInt = 0
        rw [nwP_at.1]; rfl
      · rw [if_neg h5]
        exact pp_nr
    · subst q1
      have h0 : nm (Nk p) ≠ 0 := fun z => q2 (hu.mpr z)
      have h65 : z1.1 65 = I (t.length : Nat) := hn.1
      have tl : t.length + 1 ≤ 27 := hn.2.1.2
      rw [bnd_s, show decide ((0 : Int32) = 0) = true from rfl, br_tq, ho]
      have lv : ∀ x, lvx x (e :: t) ≠ 32 := fun x z => by have := lvx_le (x := x) (sc := e :: t); have : (e :: t).length = t.length + 1 := rfl; omega
      cases own with
      | false =>
        show PP R A' (bnd (br true (ck (inb (z1.1 69) (ln 7)) (bnd (fr_M_found N z1 (z1.1 65) (z1.2.2.1 7 (z1.1 69).toNatClampNeg)) (fun u6 r6 => fb_M_namePattern_61 N () u6 r6))) _) _)
        rw [br_tq, h69, i_nt (p := p) (by omega), k7, h65]
        cases hb : inb (I (p : Nat)) (ln 7) with
        | false => exact pp_nr
        | true =>
          rw [ck_t]
          cases hy : fr_M_found N z1 (I (t.length : Nat)) (I (Nk p : Nat)) with
          | none => exact pp_nr
          | some y =>
            obtain ⟨y1, y2⟩ := y
            have fd := fnx_d (N := N) cx 30 (e :: t) z1 hn.2.2.1 hf ok (fun z => by cases z) hn.2.1.2 y1 y2 hy
            have f9 := yv9_fr_M_found (u0 := z1) Kv9_rf y1 y2 hy
            rw [bnd_s]
            rcases fd with ⟨d1, d2, d3⟩ | ⟨d1, d2, d3, d4, d5, d6, i, d7, d8⟩
            · obtain ⟨r1, r2, r3⟩ := rf_n d3
              subst d2
              have nx : Nk p ∉ e.1 := fun z => by
                have : fnb (Nk p) (e :: t) = true := fnb_e.mpr ⟨e, List.mem_cons_self, z⟩
                rw [d3] at this
                cases this
              exact e61 _ _ y2 hM RFP_rf k7 h0 (Or.inl ⟨d1, rfl, nx, r1, r3⟩)
            · obtain ⟨r1, r2, r3⟩ := rf_y d2
              have hn2 : RNs y1 (hld (Nk p) (e :: t)) := ⟨by rw [hld_len, d3.1 65]; exact hn.1, by rw [hld_len]; exact hn.2.1, d5, hld_ok ok⟩
              have p1 : PRd w0 T y1 p pi (hld (Nk p) (e :: t)) := PRS_n hM (fun k _ => d3.1 k) (fun k hk => d3.2 k (by omega)) hn2 d6
              refine e61 y1 _ y2 p1 (RFP_n RFP_rf (fun k _ => d3.1 k) (fun k hk => d3.2 k (by omega)) f9.1) (by rw [d3.2 7 (by omega)]; exact k7) h0 (Or.inr ⟨d1, r1.symm, by rw [r3]; exact lv _, ?_, by rw [d7]; exact LKt_ti (hld_ok ok) d8⟩)
              show (hdS (hld (Nk p) (e :: t))).1 = e.1
              have := (hld_SCX (x := Nk p) (sc := e :: t) (fun z => by cases z))
              unfold hld
              split
              · rfl
              · split <;> rfl
      | true =>
        show PP R A' (bnd (br false _ (ck (inb (z1.1 69) (ln 7)) (bnd (fm_M_boundIn N z1 (z1.1 65) (z1.2.2.1 7 (z1.1 69).toNatClampNeg)) (fun u7 r7 => fb_M_namePattern_61 N () u7 r7)))) _)
        rw [br_fq, h69, i_nt (p := p) (by omega), k7, h65]
        cases hb : inb (I (p : Nat)) (ln 7) with
        | false => exact pp_nr
        | true =>
          rw [ck_t]
          cases hy : fm_M_boundIn N z1 (I (t.length : Nat)) (I (Nk p : Nat)) with
          | none => exact pp_nr
          | some y =>
            obtain ⟨y1, y2⟩ := y
            obtain ⟨rfl, bq⟩ := bIx_p (N := N) hn.2.2.1.1 (by omega) ok.1.1 ok.1.2.1 cx y1 y2 hy
            rw [bnd_s]
            rcases bq with ⟨d1, d2⟩ | ⟨j, d1, d2, d3⟩
            · obtain ⟨r1, r2, r3⟩ := ro_n (t := t) (show e.1.contains (Nk p) = false by simpa using d2)
              exact e61 _ _ y2 hM RFP_rf k7 h0 (Or.inl ⟨d1, rfl, d2, r1, r3⟩)
            · obtain ⟨r1, r2, r3⟩ := ro_y (t := t) (List.contains_iff_mem.mpr (List.mem_of_getElem? d3))
              refine e61 _ (e :: t) y2 hM RFP_rf k7 h0 (Or.inr ⟨by rw [d1]; exact nat_ne (by omega), r1.symm, by rw [r3]; omega, rfl, Or.inl ⟨j, ?_, d3⟩⟩)
              rw [d1]
              exact I_ti (by omega) (by omega)
end
end
section
set_option maxRecDepth 100000
section
variable {β : Type} {m0 w0 m w v u : MS} {K nm Nk : Nat → Nat} {T p a b cm N n lo n1 x : Nat} {sc t : SCT} {e : List Nat × List Nat × Nat} {own : Bool} {S : SF_Cm_listPattern} {R : MS → Unit → MS → β → Prop} {B' : Option (MS × β)} {x1 x2 x3 : Int32}
theorem ptc_a {x : Int32} {j k : Nat} (h : k ≠ 23 ∨ j ≠ a) : A (ptc m a x) k j = A m k j := by
  show ((ptc m a x).2.2.1 k j).toInt = (m.2.2.1 k j).toInt
  by_cases z : k = 23
  · rw [z, ptc_o (by omega)]
  · rw [ptc_r z]
theorem ptc_x {x : Int32} : A (ptc m a x) 23 a = x.toInt := by
  show ((ptc m a x).2.2.1 23 a).toInt = _
  rw [ptc_n]
theorem l_two {f : MS → Unit → Option (MS × Unit)} (hC : PCS m0 nm m a cm sc own) (hh : ∀ m2, PCS m0 nm m2 (a + 2) cm sc own → CFP m m2 a (sc.length - 1) → m2.2.2.1 42 = m.2.2.1 42 → A m2 23 a = x1.toInt ∧ A m2 23 (a + 1) = x2.toInt → PP R (f m2 ()) B') : PP R (bnd (jm_Cm_term N m x1 x2) f) B' := by
  unfold jm_Cm_term jb_Cm_term_0
  have e1 := hC.2.2.1
  rw [putd_e e1.1 e1.2.2]
  by_cases ha1 : a < 23990
  · rw [if_pos ha1, bnd_s]
    have c2 := PCS_put (x := x1) hC ha1
    have e2 := c2.2.2.1
    rw [putd_e e2.1 e2.2.2]
    by_cases ha2 : a + 1 < 23990
    · rw [if_pos ha2, bnd_s, bnd_s]
      have c3 := PCS_put (x := x2) c2 ha2
      refine hh _ c3 (CFP_put (CFP_put CFP_rf (Nat.le_refl _)) (by omega)) ?_ ⟨?_, ?_⟩
      · rw [ptc_r (by decide), ptc_r (by decide)]
      · rw [ptc_a (by omega), ptc_x]
      · rw [ptc_x]
    · rw [if_neg ha2]
      exact pp_nl
  · rw [if_neg ha1]
    exact pp_nl
theorem cp_lit (hC : PCS m0 nm m a cm sc own) (hn : n ≤ 100000) {k : Int} (hk : A m0 16 n = k) (hk2 : k = 1 ∨ k = 2) (hh : ∀ m2, PCS m0 nm m2 (a + 3) cm sc own → CFP m m2 a (sc.length - 1) → m2.2.2.1 42 = m.2.2.1 42 → A m2 23 a = 1 ∧ A m2 23 (a + 1) = k - 1 ∧ A m2 23 (a + 2) = A m0 18 n → PP R (some (m2, ())) B') : PP R (jm_Cm_pattern N S m (I (n : Nat))) B' := by
  have fr := hC.1
  unfold jm_Cm_pattern jb_Cm_pattern_0
  refine l_ck (fun hb => ?_)
  rw [i_nt2 hn, tre fr (by decide) hk]
  have go : ∀ (y : Int32), PP R (bnd (jm_Co_put N m 1) (fun u13 _ => ck (inb (I (n : Nat)) 8016) (bnd (jm_Cm_term N u13 y (u13.2.2.1 18 n)) (fun u20 _ => jb_Cm_pattern_298 N S (jg_Cm_pattern N S N) u20)))) B' ∨ y.toInt ≠ k - 1 := fun y => by
    by_cases hy : y.toInt = k - 1
    · refine Or.inl ?_
      have e0 := hC.2.2.1
      refine l_put e0.1 e0.2.2 (fun ha => l_ck (fun _ => ?_))
      have c1 := PCS_put (x := 1) hC ha
      refine l_two c1 (fun m2 h1 h2 h3 h4 => ?_)
      refine hh m2 h1 (CFP_tr (CFP_put CFP_rf (Nat.le_refl _)) h2 (by omega)) (by rw [h3, ptc_r (by decide)]) ⟨?_, ?_, ?_⟩
      · show (m2.2.2.1 23 a).toInt = 1
        rw [h2.2.2.1 a (by omega), ptc_n]; rfl
      · rw [h4.1]; exact hy
      · rw [h4.2, ptc_r (by decide), fr.2 18 (by omega)]; rfl
    · exact Or.inr hy
  rcases hk2 with z | z
  · subst z
    rw [decide_eq_true (show (I 1 = (1 : Int32)) by decide), br_tq]
    rcases go 0 with g | g
    · exact g
    · exact absurd rfl g
  · subst z
    rw [decide_eq_false (show ¬ (I 2 = (1 : Int32)) by decide), br_fq, decide_eq_true (show (I 2 = (2 : Int32)) by decide), br_tq]
    rcases go 1 with g | g
    · exact g
    · exact absurd rfl g
theorem cp_neg (hC : PCS m0 nm m a cm sc own) (hn : n ≤ 100000) (hk : A m0 16 n = 17) (h18 : A m0 18 n = ((n1 : Nat) : Int)) (hn1 : n1 ≤ 100000) (hh : ∀ m2, PCS m0 nm m2 (a + 3) cm sc own → CFP m m2 a (sc.length - 1) → m2.2.2.1 42 = m.2.2.1 42 → A m2 23 a = 1 ∧ A m2 23 (a + 1) = 0 ∧ A m2 23 (a + 2) = (-(m0.2.2.1 18 n1)).toInt → PP R (some (m2, ())) B') : PP R (jm_Cm_pattern N S m (I (n : Nat))) B' := by
  have fr := hC.1
  unfold jm_Cm_pattern jb_Cm_pattern_0
  refine l_ck (fun hb => ?_)
  rw [i_nt2 hn, tre fr (by decide) hk]
  rw [decide_eq_false (show ¬ (I 17 = (1 : Int32)) by decide), br_fq, decide_eq_false (show ¬ (I 17 = (2 : Int32)) by decide), br_fq, decide_eq_false (show ¬ (I 17 = (3 : Int32)) by decide), br_fq, decide_eq_false (show ¬ (I 17 = (4 : Int32)) by decide), br_fq, decide_eq_false (show ¬ (I 17 = (5 : Int32)) by decide), br_fq, decide_eq_false (show ¬ (I 17 = (6 : Int32)) by decide), br_fq, decide_eq_false (show ¬ (I 17 = (7 : Int32)) by decide), br_fq, decide_eq_false (show ¬ (I 17 = (8 : Int32)) by decide), br_fq, decide_eq_false (show ¬ (I 17 = (9 : Int32)) by decide), br_fq, decide_eq_false (show ¬ (I 17 = (10 : Int32)) by decide), br_fq, decide_eq_false (show ¬ (I 17 = (11 : Int32)) by decide), br_fq, decide_eq_false (show ¬ (I 17 = (12 : Int32)) by decide), br_fq, decide_eq_false (show ¬ (I 17 = (13 : Int32)) by decide), br_fq, decide_eq_false (show ¬ (I 17 = (14 : Int32)) by decide), br_fq, decide_eq_false (show ¬ (I 17 = (15 : Int32)) by decide), br_fq, decide_eq_false (show ¬ (I 17 = (16 : Int32)) by decide), br_fq, decide_eq_true (show (I 17 = (17 : Int32)) by decide), br_tq]
  have e0 := hC.2.2.1
  refine l_put e0.1 e0.2.2 (fun ha => l_ck (fun _ => l_ck (fun _ => ?_)))
  have c1 := PCS_put (x := 1) hC ha
  have e18 : (ptc m a 1).2.2.1 18 n = I (n1 : Nat) := by rw [ptc_r (by decide)]; exact tre fr (by decide) h18
  rw [e18, i_nt2 hn1]
  refine l_two c1 (fun m2 h1 h2 h3 h4 => ?_)
  refine hh m2 h1 (CFP_tr (CFP_put CFP_rf (Nat.le_refl _)) h2 (by omega)) (by rw [h3, ptc_r (by decide)]) ⟨?_, ?_, ?_⟩
  · show (m2.2.2.1 23 a).toInt = 1
    rw [h2.2.2.1 a (by omega), ptc_n]; rfl
  · rw [h4.1]; rfl
  · rw [h4.2, ptc_r (by decide), fr.2 18 (by omega)]
theorem PCS_42 {g : Nat → Int32} (h : PCS m0 nm m a cm sc own) : PCS m0 nm (upA m 42 g) a cm sc own := ⟨⟨h.1.1, fun k hk => by rw [upA_no (by omega)]; exact h.1.2 k hk⟩, CNs_42 h.2.1, h.2.2.1, h.2.2.2.1, by rw [upA_no (by decide)]; exact h.2.2.2.2.1, h.2.2.2.2.2⟩
theorem CFP_42 {g : Nat → Int32} {s : Nat} (h : CFP m v a s) : CFP m (upA v 42 g) a s := ⟨h.1, fun k h1 h2 h3 h4 => by rw [upA_no h4]; exact h.2.1 k h1 h2 h3 h4, fun j hj => by rw [upA_no (by decide)]; exact h.2.2.1 j hj, fun j hj => by rw [upA_no (by decide)]; exact h.2.2.2 j hj⟩
def CQn (nm : Nat → Nat) (own : Bool) (x : Nat) (sc : SCT) (m2 : MS) (a b cm cm2 L : Nat) (sc2 : SCT) : Prop := (nm x = 0 ∧ b = a + 1 ∧ A m2 23 a = 5 ∧ sc2 = sc ∧ cm2 = cm ∧ L = 32) ∨ (nm x ≠ 0 ∧ b = a + 2 ∧ A m2 23 (a + 1) = ((nm x : Nat) : Int) ∧ sc2 = rfP own x sc ∧ L = rfL own x sc ∧ ((L = 32 ∧ A m2 23 a = 4 ∧ cm ≤ cm2) ∨ (L ≠ 32 ∧ A m2 23 a = 3 ∧ cm2 = cm)))
theorem rfP_bd (own : Bool) (h : rfL own x (e :: t) ≠ 32) : (hdS (rfP own x (e :: t))).1 = e.1 ∧ (∀ m nm, CNs m nm (e :: t) → CNs m nm (rfP own x (e :: t))) ∧ (rfP own x (e :: t)).length = (e :: t).length := by
  cases own with
  | false =>
    cases hf : fnb x (e :: t) with
    | false => exact absurd (rf_n hf).2.2 h
    | true =>
      rw [(rf_y hf).1]
      refine ⟨?_, fun m nm c => CNs_hld c, hld_len⟩
      unfold hld
      split
      · rfl
      · split <;> rfl
  | true =>
    cases hf : e.1.contains x with
    | false => exact absurd (ro_n (t := t) hf).2.2 h
    | true =>
      rw [(ro_y (t := t) hf).1]
      exact ⟨rfl, fun _ _ c => c, rfl⟩
theorem yb_bind {z : MS} {r : Unit} {y : Int32} (h : hm_Cm_bind N v y = some (z, r)) : (∀ k, k ≠ 706 → z.1 k = v.1 k) ∧ ∀ k, k ≠ 39 → k ≠ 41 → z.2.2.1 k = v.2.2.1 k := by
  have e32 : ∀ (u : MS), PK (fun z _ => z.1 = u.1 ∧ ∀ k, k ≠ 41 → z.2.2.1 k = u.2.2.1 k) (hb_Cm_bind_32 N () u) := fun u => by
    unfold hb_Cm_bind_32
    refine pk_ck (fun _ => pk_ck (fun _ => pk_ltq (pk_ck (fun _ => pk_ltq (pk_some ⟨rfl, fun k hk => upA_no hk⟩)))))
  have all : PK (fun z _ => (∀ k, k ≠ 706 → z.1 k = v.1 k) ∧ ∀ k, k ≠ 39 → k ≠ 41 → z.2.2.1 k = v.2.2.1 k) (hm_Cm_bind N v y) := by
    unfold hm_Cm_bind hb_Cm_bind_0
    refine pk_br (fun _ => pk_mo (e32 v) (fun z r q => ⟨fun k _ => by rw [q.1], fun k _ h2 => q.2 k h2⟩)) (fun _ => pk_ck (fun _ => pk_ltq (pk_ltq (pk_mo (e32 _) (fun z r q => ⟨fun k hk => ?_, fun k h1 h2 => ?_⟩)))))
    · rw [q.1]
      exact upI_ne hk
    · rw [q.2 k h2]
      exact upA_no h1
  exact all z r h
theorem cp_nip (hnm : NMJ nm) (hC : PCS m0 nm m a cm (e :: t) own) (ok : SOK (e :: t)) (hx : x < 1400) (hlo : lo ≤ 4001) (h4 : tot (e :: t) < 4000) (hh : ∀ m2 b cm2 L sc2, PCS m0 nm m2 b cm2 sc2 own → CFP m m2 a t.length → m2.2.2.1 42 = upd (m.2.2.1 42) lo (I (L : Nat)) → CQn nm own x (e :: t) m2 a b cm cm2 L sc2 → PP R (some (m2, ())) B') {f : MS → Unit → Option (MS × Unit)} (hf : ∀ v, f v () = some (v, ())) : PP R (bnd (jm_Cm_nameInPattern N m (I (nm x : Nat)) (I (lo : Nat))) f) B' := by
  have nx1 := hnm.2 x
  unfold jm_Cm_nameInPattern jb_Cm_nameInPattern_0
  cases hb : inb (I (lo : Nat)) 4002 with
  | false => exact pp_nl
  | true =>
    rw [ck_t, lt_e, i_nt hlo]
    have c0 : PCS m0 nm (upA m 42 (upd (m.2.2.1 42) lo 32)) a cm (e :: t) own := PCS_42 hC
    have f0 : CFP m (upA m 42 (upd (m.2.2.1 42) lo 32)) a t.length := CFP_42 CFP_rf
    have g0 : (upA m 42 (upd (m.2.2.1 42) lo 32)).2.2.1 42 = upd (m.2.2.1 42) lo 32 := upA_at
    generalize upA m 42 (upd (m.2.2.1 42) lo 32) = M at c0 f0 g0
    have e0 := c0.2.2.1
    by_cases h0 : nm x = 0
    · rw [decide_eq_true (by rw [h0]; rfl), br_tq, putd_e e0.1 e0.2.2]
      by_cases ha : a < 23990
      · rw [if_pos ha, bnd_s]
        unfold jb_Cm_nameInPattern_92
        rw [bnd_s, hf]
        exact hh _ (a + 1) cm 32 (e :: t) (PCS_put c0 ha) (CFP_put f0 (Nat.le_refl _)) (by rw [ptc_r (by decide)]; exact g0) (Or.inl ⟨h0, rfl, ptc_x, rfl, rfl, rfl⟩)
      · rw [if_neg ha]
        exact pp_nl
    · rw [decide_eq_false (show ¬ (I (nm x : Nat) = (0 : Int32)) from fun z => h0 (i_inj (b := 0) (by omega) (by omega) z)), br_fq]
      have e46 : ∀ (y3 : Int32), PK (fun v r => (r = 0 ∧ v = M ∧ rfP own x (e :: t) = bnS x (e :: t) ∧ rfL own x (e :: t) = 32) ∨ (r = 1 ∧ rfL own x (e :: t) ≠ 32 ∧ rfL own x (e :: t) ≤ 32 ∧ v = upA M 42 (upd (M.2.2.1 42) lo (I (rfL own x (e :: t) : Nat))))) (hm_Cm_isBound N M (I (nm x : Nat)) (I (lo : Nat)) y3) → PP R (bnd (jb_Cm_nameInPattern_46 N () M (I (nm x : Nat)) (I (nm x : Nat)) (I (lo : Nat)) y3) f) B' := fun y3 hk => by
        unfold jb_Cm_nameInPattern_46
        cases hz : hm_Cm_isBound N M (I (nm x : Nat)) (I (lo : Nat)) y3 with
        | none => exact pp_nl
        | some z =>
          obtain ⟨z1, z2⟩ := z
          rw [bnd_s]
          rcases hk z1 z2 hz with ⟨q1, q2, q3, q4⟩ | ⟨q1, q2, q2b, q3⟩
          · subst q2
            rw [decide_eq_true q1, br_tq, putd_e e0.1 e0.2.2]
            by_cases ha : a < 23990
            · rw [if_pos ha, bnd_s]
              have c1 := PCS_put (x := 4) c0 ha
              have e1 := c1.2.2.1
              rw [putd_e e1.1 e1.2.2]
              by_cases ha1 : a + 1 < 23990
              · rw [if_pos ha1, bnd_s]
                have c2 := PCS_put (x := I (nm x : Nat)) c1 ha1
                have f2 := CFP_put (x := I (nm x : Nat)) (CFP_put (x := 4) f0 (Nat.le_refl _)) (show a ≤ a + 1 by omega)
                have w1 : A (ptc (ptc z1 a 4) (a + 1) (I (nm x : Nat))) 23 a = 4 := by rw [ptc_a (by omega), ptc_x]; rfl
                have w2 : A (ptc (ptc z1 a 4) (a + 1) (I (nm x : Nat))) 23 (a + 1) = ((nm x : Nat) : Int) := by rw [ptc_x]; exact I_ti (by omega) (by omega)
                have g2 : (ptc (ptc z1 a 4) (a + 1) (I (nm x : Nat))).2.2.1 42 = upd (m.2.2.1 42) lo 32 := by rw [ptc_r (by decide), ptc_r (by decide)]; exact g0
                generalize ptc (ptc z1 a 4) (a + 1) (I (nm x : Nat)) = V at c2 f2 w1 w2 g2
                cases hq : hm_Cm_bind N V (I (nm x : Nat)) with
                | none => exact pp_nl
                | some q =>
                  obtain ⟨q5, q6⟩ := q
                  obtain ⟨b1, b2, b3, b4⟩ := bind_c (N := N) (x := x) c2.2.1 h4 (show V.2.2.1 41 t.length = I (cm : Nat) from c2.2.2.2.2.1) c2.2.2.2.2.2.1 q5 q6 hq
                  have b5 := yb_bind hq
                  rw [bnd_s]
                  unfold jb_Cm_nameInPattern_92
                  rw [bnd_s, hf]
                  have r23 : q5.2.2.1 23 = V.2.2.1 23 := b5.2 23 (by decide) (by decide)
                  refine hh q5 (a + 2) (max cm (e.1.length + 1)) 32 (bnS x (e :: t)) ⟨⟨fun k hk => (b5.1 k (by omega)).trans (c2.1.1 k hk), fun k hk => (b5.2 k (by omega) (by omega)).trans (c2.1.2 k hk)⟩, b1, ⟨(b5.1 441 (by decide)).trans c2.2.2.1.1, by omega, by omega⟩, by rw [b5.1 713 (by decide)]; exact c2.2.2.2.1, ?_, ?_, ?_⟩ ⟨fun k h1 h2 => (b5.1 k h2).trans (f2.1 k h1 h2), fun k h1 h2 h3 h4 => (b5.2 k h2 h3).trans (f2.2.1 k h1 h2 h3 h4), fun j hj => by rw [r23]; exact f2.2.2.1 j hj, fun j hj => by rw [b2, upd_no hj]; exact f2.2.2.2 j hj⟩ (by rw [b3, g2]; rfl) (Or.inr ⟨h0, rfl, ?_, q3.symm, q4.symm, Or.inl ⟨rfl, ?_, by omega⟩⟩)
                  · show q5.2.2.1 41 t.length = _
                    rw [b2, upd_at]
                  · have := nd_len 1400 _ ok.1.1 ok.1.2.1
                    have := c2.2.2.2.2.2.1
                    omega
                  · show (e.1 ++ [x]).length ≤ _
                    rw [List.length_append, List.length_singleton]
                    omega
                  · show (q5.2.2.1 23 (a + 1)).toInt = _
                    rw [r23]; exact w2
                  · show (q5.2.2.1 23 a).toInt = _
                    rw [r23]; exact w1
              · rw [if_neg ha1]
                exact pp_nl
            · rw [if_neg ha]
              exact pp_nl
          · rw [q1, show decide ((1 : Int32) = 0) = false from rfl, br_fq]
            have c1 : PCS m0 nm z1 a cm (e :: t) own := by rw [q3]; exact PCS_42 c0
            have f1 : CFP m z1 a t.length := by rw [q3]; exact CFP_42 f0
            have g1 : z1.2.2.1 42 = upd (m.2.2.1 42) lo (I (rfL own x (e :: t) : Nat)) := by rw [q3, upA_at, g0, upd_tw]
            have e1 := c1.2.2.1
            rw [putd_e e1.1 e1.2.2]
            by_cases ha : a < 23990
            · rw [if_pos ha, bnd_s]
              have c2 := PCS_put (x := 3) c1 ha
              have e2 := c2.2.2.1
              rw [putd_e e2.1 e2.2.2]
              by_cases ha1 : a + 1 < 23990
              · rw [if_pos ha1, bnd_s]
                unfold jb_Cm_nameInPattern_92
                rw [bnd_s, hf]
                have c3 := PCS_put (x := I (nm x : Nat)) c2 ha1
                obtain ⟨d1, d2, d3⟩ := rfP_bd (e := e) (t := t) own q2
                refine hh _ (a + 2) cm (rfL own x (e :: t)) (rfP own x (e :: t)) ⟨c3.1, d2 _ _ c3.2.1, c3.2.2.1, c3.2.2.2.1, by rw [d3]; exact c3.2.2.2.2.1, c3.2.2.2.2.2.1, by rw [d1]; exact c3.2.2.2.2.2.2⟩ (CFP_put (CFP_put f1 (Nat.le_refl _)) (by omega)) (by rw [ptc_r (by decide), ptc_r (by decide)]; exact g1) (Or.inr ⟨h0, rfl, ?_, rfl, rfl, Or.inr ⟨q2, ?_, rfl⟩⟩)
                · rw [ptc_x]; exact I_ti (by omega) (by omega)
                · rw [ptc_a (by omega), ptc_x]; rfl
              · rw [if_neg ha1]
                exact pp_nl
            · rw [if_neg ha]
              exact pp_nl
      have lv : lvx x (e :: t) ≤ 26 := by
        have := lvx_le (x := x) (sc := e :: t)
        have l2 : (e :: t).length = t.length + 1 := rfl
        have := c0.2.1.2.1.2
        omega
      have tl : t.length ≤ 26 := by have := c0.2.1.2.1.2; have l2 : (e :: t).length = t.length + 1 := rfl; omega
      rw [c0.2.2.2.1]
      cases own with
      | false =>
        show PP R (bnd (br true _ _) f) B'
        rw [br_tq]
        refine e46 0 (pk_mo (isB_all (N := N) hnm c0.2.1 ok hx hlo) (fun v r q => ?_))
        rcases q with ⟨q1, q2, q3⟩ | ⟨q1, q2, q3⟩
        · exact Or.inl ⟨q1, q2, (rf_n q3).1, (rf_n q3).2.2⟩
        · exact Or.inr ⟨q1, by rw [(rf_y q2).2.2]; omega, by rw [(rf_y q2).2.2]; omega, by rw [(rf_y q2).2.2]; exact q3⟩
      | true =>
        show PP R (bnd (br false _ (ck (inb (M.1 709) 32) (jb_Cm_nameInPattern_46 N () M (I (nm x : Nat)) (I (nm x : Nat)) (I (lo : Nat)) (M.2.2.1 40 (M.1 709).toNatClampNeg)))) f) B'
        rw [br_fq]
        cases hb2 : inb (M.1 709) 32 with
        | false => exact pp_nl
        | true =>
          rw [ck_t, show M.1 709 = I (t.length : Nat) from c0.2.1.1, i_nt (by omega), show M.2.2.1 40 t.length = I (tot t : Nat) from c0.2.1.2.2.2.2.1]
          refine e46 _ (pk_mo (isB_own (N := N) hnm c0.2.1 ok hx hlo) (fun v r q => ?_))
          rcases q with ⟨q1, q2, q3⟩ | ⟨q1, q2, q3⟩
          · have q4 : e.1.contains x = false := by simpa using q3
            exact Or.inl ⟨q1, q2, (ro_n (t := t) q4).1, (ro_n (t := t) q4).2.2⟩
          · have q4 : e.1.contains x = true := List.contains_iff_mem.mpr q2
            exact Or.inr ⟨q1, by rw [(ro_y (t := t) q4).2.2]; omega, by rw [(ro_y (t := t) q4).2.2]; omega, by rw [(ro_y (t := t) q4).2.2]; exact q3⟩
end
end
section
set_option maxRecDepth 100000
section
variable {α : Type} {m0 w0 m w v u m2 : MS} {K nm Nk : Nat → Nat} {T p a b cm N n lo n1 x fr s0 l f pi D d : Nat} {sc t : SCT} {e : List Nat × List Nat × Nat} {own : Bool} {S : SF_Cm_listPattern} {S2 : SG_M_rowPattern} {Q : MS → α → Prop} {v1 : Int32}
theorem pk_put {g : MS → Unit → Option (MS × α)} {y : Int32} (h : m.1 441 = I (a : Nat)) (ha : a ≤ 23990) (hk : a < 23990 → PK Q (g (ptc m a y) ())) : PK Q (bnd (jm_Co_put N m y) g) := by
  rw [putd_e h ha]
  by_cases z : a < 23990
  · rw [if_pos z, bnd_s]
    exact hk z
  · rw [if_neg z]
    exact pk_none
theorem cs_2 (hl : l ≤ 40) (hfr : fr + l ≤ 4000) (hs : ∀ (N : Nat) (m : MS) (k : Nat), FRC m0 m → k < l → ∃ x : Int32, hm_To_signAt N m (I ((fr + k : Nat) : Int)) = some (m, x) ∧ x ≠ 34 ∧ x.toInt = A w0 18 (b + k)) (hC : PCS m0 nm m a cm sc own) : ∀ (M j : Nat) (v : MS), j ≤ l → PCS m0 nm v (a + 1 + j) cm sc own → CFP m v a (sc.length - 1) → v.2.2.1 42 = m.2.2.1 42 → A v 23 a = ((l : Nat) : Int) → (∀ k, k < j → A v 23 (a + 1 + k) = A w0 18 (b + k)) → PK (fun m2 _ => PCS m0 nm m2 (a + 1 + l) cm sc own ∧ CFP m m2 a (sc.length - 1) ∧ m2.2.2.1 42 = m.2.2.1 42 ∧ A m2 23 a = ((l : Nat) : Int) ∧ ∀ k, k < l → A m2 23 (a + 1 + k) = A w0 18 (b + k)) ((jg_Cm_string N M).2 v (I (fr : Nat)) (I (l : Nat)) (I (j : Nat)))
  | 0, _, _, _, _, _, _, _, _ => pk_none
  | M + 1, j, v, hj, h1, h2, h3, h4, h5 => by
    show PK _ (jb_Cm_string_50 N (jg_Cm_string N M) v (I (fr : Nat)) (I (l : Nat)) (I (j : Nat)))
    unfold jb_Cm_string_50
    rw [decI (by omega) (by omega) (by omega) (by omega)]
    by_cases z : l ≤ j
    · have : j = l := by omega
      subst this
      rw [decide_eq_true (by omega), br_tq]
      exact pk_some ⟨h1, h2, h3, h4, h5⟩
    · rw [decide_eq_false (by omega), br_fq, I_add, show ((fr : Nat) : Int) + ((j : Nat) : Int) = ((fr + j : Nat) : Int) by omega]
      obtain ⟨y, y1, y2, y3⟩ := hs N v j h1.1 (by omega)
      rw [y1, bnd_s, i_suc]
      refine pk_put h1.2.2.1.1 h1.2.2.1.2.2 (fun ha => ?_)
      refine cs_2 hl hfr hs hC M (j + 1) _ (by omega) (PCS_put h1 ha) (CFP_put h2 (by omega)) (by rw [ptc_r (by decide)]; exact h3) (by rw [ptc_a (by omega)]; exact h4) (fun k hk => ?_)
      by_cases e : k = j
      · rw [e, ptc_x]; exact y3
      · rw [ptc_a (by omega)]; exact h5 k (by omega)
theorem cs_1 (hl : l ≤ 40) (hfr : fr + l ≤ 4000) (hs : ∀ (N : Nat) (m : MS) (k : Nat), FRC m0 m → k < l → ∃ x : Int32, hm_To_signAt N m (I ((fr + k : Nat) : Int)) = some (m, x) ∧ x ≠ 34 ∧ x.toInt = A w0 18 (b + k)) (he : l < 40 → ∀ (N : Nat) (m : MS), FRC m0 m → hm_To_signAt N m (I ((fr + l : Nat) : Int)) = some (m, 34)) (hC : PCS m0 nm m a cm sc own) : ∀ (M j : Nat), j ≤ l → PK (fun m2 _ => PCS m0 nm m2 (a + 1 + l) cm sc own ∧ CFP m m2 a (sc.length - 1) ∧ m2.2.2.1 42 = m.2.2.1 42 ∧ A m2 23 a = ((l : Nat) : Int) ∧ ∀ k, k < l → A m2 23 (a + 1 + k) = A w0 18 (b + k)) ((jg_Cm_string N M).1 m (I (fr : Nat)) (I (j : Nat)))
  | 0, _, _ => pk_none
  | M + 1, j, hj => by
    show PK _ (jb_Cm_string_12 N (jg_Cm_string N M) m (I (fr : Nat)) (I (j : Nat)))
    have e39 : PK (fun m2 _ => PCS m0 nm m2 (a + 1 + l) cm sc own ∧ CFP m m2 a (sc.length - 1) ∧ m2.2.2.1 42 = m.2.2.1 42 ∧ A m2 23 a = ((l : Nat) : Int) ∧ ∀ k, k < l → A m2 23 (a + 1 + k) = A w0 18 (b + k)) (jb_Cm_string_39 N (jg_Cm_string N M) m (I (fr : Nat)) (I (l : Nat))) := by
      unfold jb_Cm_string_39
      refine pk_put hC.2.2.1.1 hC.2.2.1.2.2 (fun ha => ?_)
      exact cs_2 (N := N) hl hfr hs hC M 0 _ (Nat.zero_le _) (PCS_put hC ha) (CFP_put CFP_rf (Nat.le_refl _)) (ptc_r (by decide)) (by rw [ptc_x]; exact I_ti (by omega) (by omega)) (fun k hk => absurd hk (by omega))
    unfold jb_Cm_string_12
    rw [show (40 : Int32) = I 40 from rfl, decI (by decide) (by decide) (by omega) (by omega)]
    by_cases z : 40 ≤ j
    · have : j = l := by omega
      subst this
      rw [decide_eq_true (by omega), br_tq]
      exact e39
    · rw [decide_eq_false (by omega), br_fq, I_add, show ((fr : Nat) : Int) + ((j : Nat) : Int) = ((fr + j : Nat) : Int) by omega]
      by_cases y : j = l
      · subst y
        rw [he (by omega) N m hC.1, bnd_s, show decide ((34 : Int32) = 34) = true from rfl, br_tq]
        exact e39
      · obtain ⟨q, y1, y2, y3⟩ := hs N m j hC.1 (by omega)
        rw [y1, bnd_s, decide_eq_false y2, br_fq, i_suc]
        exact cs_1 hl hfr hs he hC M (j + 1) (by omega)
theorem cs_p (hC : PCS m0 nm m a cm sc own) (hn : n ≤ 100000) (h18 : A m0 18 n = ((fr : Nat) : Int)) (hl : l ≤ 40) (hfr : fr + l ≤ 4000) (hs : ∀ (N : Nat) (m : MS) (k : Nat), FRC m0 m → k < l → ∃ x : Int32, hm_To_signAt N m (I ((fr + k : Nat) : Int)) = some (m, x) ∧ x ≠ 34 ∧ x.toInt = A w0 18 (b + k)) (he : l < 40 → ∀ (N : Nat) (m : MS), FRC m0 m → hm_To_signAt N m (I ((fr + l : Nat) : Int)) = some (m, 34)) : PK (fun m2 _ => PCS m0 nm m2 (a + 1 + l) cm sc own ∧ CFP m m2 a (sc.length - 1) ∧ m2.2.2.1 42 = m.2.2.1 42 ∧ A m2 23 a = ((l : Nat) : Int) ∧ ∀ k, k < l → A m2 23 (a + 1 + k) = A w0 18 (b + k)) (jm_Cm_string N m (I (n : Nat))) := by
  unfold jm_Cm_string jb_Cm_string_0
  refine pk_ck (fun _ => ?_)
  rw [i_nt2 hn, tre hC.1 (by decide) h18]
  exact cs_1 (N := N) hl hfr hs he hC N 0 (Nat.zero_le _)
theorem lf_7 (c : CTZ m0 w0 K T nm Nk) (h : LFc m0 n lo) (hl : lo ≤ T) : A m0 16 n = ((K lo : Nat) : Int) ∧ 1 ≤ K lo ∧ K lo ≤ 4 ∧ A m0 17 n = ((lo : Nat) : Int) ∧ A m0 18 n = A m0 7 lo := by
  obtain ⟨h1, h2, h3, h4⟩ := h
  have e : A m0 6 lo = ((K lo : Nat) : Int) := by
    show (m0.2.2.1 6 lo).toInt = _
    rw [c.1.2 lo hl]
    exact I_ti (by have := c.1.1.k46 hl; omega) (by have := c.1.1.k46 hl; omega)
  rw [e] at h1 h2
  exact ⟨h1, by omega, by omega, h3, h4⟩
theorem PRS_ne (h : PRd w0 T w p pi sc) : ∃ e t, sc = e :: t := by
  have := h.2.2.2.1.2.1.1
  cases sc with
  | nil => exact absurd this (by decide)
  | cons e t => exact ⟨e, t, rfl⟩
theorem pt_leaf (c : CTZ m0 w0 K T nm Nk) (cv : CTV m0 w0 K T) (hC : PCS m0 nm m a cm sc own) (hR : PRd w0 T w lo pi sc) (hn : n ≤ 100000) (hlf : LFc m0 n lo) (h4 : tot sc + 1 ≤ 4000) (ho : decide (v1 = 0) = !own) : PP (PTZ m0 w0 K T nm Nk (f + 1) lo (lo + 1) own a cm pi sc m w) (jm_Cm_pattern N S m (I (n : Nat))) (km_M_patternAt N S2 w v1) := by
  obtain ⟨l16, k1, k4, l17, l18⟩ := lf_7 c hlf hR.2.1.2
  have hl : lo < T := c.1.1.lt hR.2.1.2 (by omega) (by omega)
  have t4 := c.1.1.1
  obtain ⟨e, t, rfl⟩ := PRS_ne hR
  have gap : ∀ z : Nat, K lo ≠ 3 → HDw own nm Nk K (fun _ => z) lo (lo + 1) (e :: t) (e :: t) := fun z h3 => HDw_gap (fun j a b => by rw [show j = lo by omega]; exact h3)
  have wg : ∀ (z : Nat), K lo ≠ 3 → wup (m.2.2.1 42) K (fun _ => z) lo (lo + 1) = m.2.2.1 42 := fun z h3 => wup_0 (fun j a b => by rw [show j = lo by omega]; exact h3)
  by_cases z3 : K lo = 3
  · 
    obtain ⟨c7, d7, cx, cu⟩ := c.2.2.2 lo hl z3
    refine rp_name c hR z3 ho (fun w2 sc2 r1 r2 _ h5 r37 => ?_)
    obtain ⟨r37, r3⟩ := r37
    have fr := hC.1
    unfold jm_Cm_pattern jb_Cm_pattern_0
    refine l_ck (fun hb => ?_)
    rw [i_nt2 hn, tre fr (by decide) (v := 3) (l16.trans (by rw [z3]; rfl))]
    rw [decide_eq_false (show ¬ (I 3 = (1 : Int32)) by decide), br_fq, decide_eq_false (show ¬ (I 3 = (2 : Int32)) by decide), br_fq, decide_eq_true (show (I 3 = (3 : Int32)) by decide), br_tq]
    refine l_ck (fun _ => l_ck (fun _ => ?_))
    have e18 : m.2.2.1 18 n = I (nm (Nk lo) : Nat) := by
      rw [tre fr (by decide) l18]
      show I (m0.2.2.1 7 lo).toInt = _
      rw [← I_of, c7]
    rw [e18, tre fr (by decide) l17]
    refine cp_nip c.2.2.1 hC hR.2.2.2.1.2.2.2 cx (by omega) (by omega) (fun m2 b cm2 L sc3 q1 q2 q3 q4 => pp_end ?_) (fun v => rfl)
    have es : sc3 = sc2 := by
      rcases r3 with ⟨a1, a2, -⟩ | ⟨a1, a2, -⟩ <;> rcases q4 with ⟨b1, -, -, b4, -⟩ | ⟨b1, -, -, b4, -⟩
      · rw [a2, b4]
      · exact absurd a1 b1
      · exact absurd b1 a1
      · rw [a2, b4]
    subst es
    have hb : a < b := by rcases q4 with ⟨-, b2, -⟩ | ⟨-, b2, -⟩ <;> omega
    have ok := hR.2.2.2.1.2.2.2
    have tl : t.length + 1 ≤ 27 := hR.2.2.2.1.2.1.2
    refine ⟨pi, b, pi + 1, cm2, sc3, fun _ => L, rfl, ⟨Nat.le_refl _, by omega, r37⟩, hb, q1, r1, ⟨?_, ?_⟩, ?_, by rw [q3, wup_1 z3], q2, r2, fun C R J H gc gr gp gh => ?_⟩
    · rcases q4 with ⟨b1, b2, b3, b4, b5, b6⟩ | ⟨b1, b2, b3, b4, b5, b6⟩
      · rw [b4, b5]; exact NMX_rf
      · rw [b4]
        have sx := (rfP_d (Nk := fun _ => Nk lo) (K := fun _ => 3) (W := fun _ => rfL own (Nk lo) (e :: t)) (p := 0) (own := own) (x := Nk lo) ok (by omega) rfl rfl rfl).1
        have cmle : cm ≤ cm2 := by rcases b6 with ⟨-, -, h⟩ | ⟨-, -, h⟩ <;> omega
        cases hq : rfP own (Nk lo) (e :: t) with
        | nil => rw [hq] at sx; exact sx.elim
        | cons e2 t2 => rw [hq] at sx; exact ⟨sx.1, sx.2.2, cmle⟩
    · rcases q4 with ⟨b1, b2, b3, b4, b5, b6⟩ | ⟨b1, b2, b3, b4, b5, b6⟩
      · rw [b4]; omega
      · rw [b4]
        have := (rfX_le (own := own) ok cx).2
        omega
    · rcases q4 with ⟨b1, b2, b3, b4, b5, b6⟩ | ⟨b1, b2, b3, b4, b5, b6⟩
      · rw [b4]
        have el : (e :: t).length = t.length + 1 := rfl
        refine ⟨HDo_no (fun j a b _ => ?_), fun _ => ⟨fun j a b _ => ?_, NWX_rf⟩⟩
        · show _ ≤ L + 1 ∧ L ≤ 32
          omega
        · have : j = lo := by omega
          subst this
          exact ⟨fun z => absurd b1 z, fun _ => by show _ ≤ L + 1; omega⟩
      · rw [b4]
        exact rfP_dw ok rfl z3 b1 b5 (by omega)
    · have g := gp pi (Nat.le_refl _) (by omega)
      rcases q4 with ⟨b1, b2, b3, b4, b5, b6⟩ | ⟨b1, b2, b3, b4, b5, b6⟩
      · rcases r3 with ⟨-, -, a3⟩ | ⟨a1, -, -⟩
        · exact Or.inl ⟨g.1.trans a3, (gc a (Nat.le_refl _) hb).trans b3, b2, by rw [b4]⟩
        · exact absurd b1 a1
      · rcases r3 with ⟨a1, -, -⟩ | ⟨-, -, a3⟩
        · exact absurd a1 b1
        · have ca1 : C (a + 1) = ((nm (Nk lo) : Nat) : Int) := (gc (a + 1) (by omega) (by omega)).trans b3
          rcases a3 with ⟨x1, x2, x3, x4⟩ | ⟨x1, x2, x3, x4⟩
          · rcases b6 with ⟨y1, y2, y3⟩ | ⟨y1, -, -⟩
            · refine Or.inr (Or.inl ⟨g.1.trans x4, (gc a (Nat.le_refl _) hb).trans y2, b2, nm (Nk lo), ca1, ?_, ?_⟩)
              · intro z
                obtain ⟨y, hy, he⟩ := List.mem_map.mp z
                exact x2 (by rw [← c.2.2.1.1 _ _ he]; exact hy)
              · rw [x3]
                show (e.1 ++ [Nk lo]).map nm = e.1.map nm ++ [nm (Nk lo)]
                rw [List.map_append]; rfl
            · exact absurd (b5.trans x1) y1
          · rcases b6 with ⟨y1, -, -⟩ | ⟨y1, y2, y3⟩
            · exact absurd (b5.symm.trans y1) x1
            · refine Or.inr (Or.inr (Or.inl ⟨g.1.trans x3, (gc a (Nat.le_refl _) hb).trans y2, b2, ?_, ?_⟩))
              · unfold Onm
                rw [x2]
              · rw [ca1, g.2.1]
                have oe : Onm nm (e :: t) = Onm nm sc3 := by unfold Onm; rw [x2]
                rw [oe]
                refine ⟨nm (Nk lo), rfl, ?_⟩
                cases sc3 with
                | nil => exact x4.elim
                | cons e3 t3 =>
                  rcases x4 with ⟨k, i1, i2⟩ | ⟨i0, ⟨k, i1, i2⟩ | i1⟩
                  · exact Or.inl ⟨k, i1, by show (e3.1.map nm)[k]? = _; rw [List.getElem?_map, i2]; rfl⟩
                  · refine Or.inr ⟨k, i1, ?_, ?_⟩
                    · intro z
                      obtain ⟨y, hy, he⟩ := List.mem_map.mp z
                      exact i0 (by rw [← c.2.2.1.1 _ _ he]; exact hy)
                    · obtain ⟨l, hl⟩ := gh.1
                      have hl : (e3.2.1.map nm) ++ l = H := hl
                      have i3 : (e3.2.1.map nm)[k]? = some (nm (Nk lo)) := by rw [List.getElem?_map, i2]; rfl
                      rw [← hl, List.getElem?_append_left (List.getElem?_eq_some_iff.mp i3).1]
                      exact i3
                  · exfalso
                    have h1 := gh.1.length_le
                    have h2 := gh.2
                    have h3 : (e3.2.1.map nm).length = e3.2.1.length := List.length_map _
                    have h1 : (e3.2.1.map nm).length ≤ H.length := h1
                    omega
  · refine rp_leaf c hR (by omega) (fun w2 r1 r2 _ h5 r37 => ?_)
    obtain ⟨r37, r3⟩ := r37
    by_cases z4 : K lo = 4
    · 
      obtain ⟨fr, s0, b, l, s1, s2, s3, s4, s5, s6, s7, s8, s9⟩ := (cv lo hl).2.2 z4
      have frc := hC.1
      unfold jm_Cm_pattern jb_Cm_pattern_0
      refine l_ck (fun hb => ?_)
      rw [i_nt2 hn, tre frc (by decide) (v := 4) (l16.trans (by rw [z4]; rfl))]
      rw [decide_eq_false (show ¬ (I 4 = (1 : Int32)) by decide), br_fq, decide_eq_false (show ¬ (I 4 = (2 : Int32)) by decide), br_fq, decide_eq_false (show ¬ (I 4 = (3 : Int32)) by decide), br_fq, decide_eq_true (show (I 4 = (4 : Int32)) by decide), br_tq]
      refine l_put hC.2.2.1.1 hC.2.2.1.2.2 (fun ha => ?_)
      have c1 := PCS_put (x := 2) hC ha
      have e18 : A m0 18 n = ((fr : Nat) : Int) := by
        rw [l18]
        show (m0.2.2.1 7 lo).toInt = _
        rw [s1]
        exact I_ti (by omega) (by omega)
      refine l_bnd (pk_mo (cs_p (N := N) c1 hn e18 s6 s7 s8 s9) (fun m2 _ q => ?_))
      obtain ⟨q1, q2, q3, q4, q5⟩ := q
      unfold jb_Cm_pattern_298
      refine pp_end ⟨pi, a + 1 + 1 + l, pi + 1, cm, e :: t, fun _ => 0, rfl, ⟨Nat.le_refl _, by omega, r37⟩, by omega, q1, r1, ⟨NMX_rf, by omega⟩, gap 0 z3, by rw [wg 0 z3, q3, ptc_r (by decide)], CFP_tr (CFP_put CFP_rf (Nat.le_refl _)) q2 (by omega), r2, fun C R J H gc gr gp gh => ?_⟩
      have g := gp pi (Nat.le_refl _) (by omega)
      rcases r3 with ⟨a1, -⟩ | ⟨a1, -⟩ | ⟨a1, a2, a3⟩
      · omega
      · omega
      · have wa : A m2 23 a = 2 := by
          show (m2.2.2.1 23 a).toInt = 2
          rw [q2.2.2.1 a (by omega), ptc_n]; rfl
        refine Or.inr (Or.inr (Or.inr (Or.inr (Or.inl ⟨g.1.trans a2, (gc a (Nat.le_refl _) (by omega)).trans wa, rfl, l, ⟨s0, b, ?_, by rw [gr 19 s0 (by omega)]; exact s4, by rw [gr 19 _ (by omega)]; exact s5, (gc (a + 1) (by omega) (by omega)).trans q4, fun k hk => ?_⟩, by omega⟩))))
        · rw [g.2.1, a3]
          show (w0.2.2.1 7 lo).toInt = _
          rw [s2]
          exact I_ti (by omega) (by omega)
        · rw [gr 18 _ (by omega), gc _ (by omega) (by omega)]
          exact q5 k hk
    · 
      refine cp_lit hC hn l16 (by omega) (fun m2 q1 q2 q3 q4 => pp_end ?_)
      refine ⟨pi, a + 3, pi + 1, cm, e :: t, fun _ => 0, rfl, ⟨Nat.le_refl _, by omega, r37⟩, by omega, q1, r1, ⟨NMX_rf, by omega⟩, gap 0 z3, by rw [wg 0 z3, q3], q2, r2, fun C R J H gc gr gp gh => ?_⟩
      have g := gp pi (Nat.le_refl _) (by omega)
      have v7 : A m0 18 n = A w0 7 lo := by
        rw [l18]
        show (m0.2.2.1 7 lo).toInt = (w0.2.2.1 7 lo).toInt
        rw [(cv lo hl).2.1 (by omega)]
      have c0 := (gc a (Nat.le_refl _) (by omega)).trans q4.1
      have c1 := (gc (a + 1) (by omega) (by omega)).trans q4.2.1
      have c2 := (gc (a + 2) (by omega) (by omega)).trans (q4.2.2.trans v7)
      rcases r3 with ⟨a1, a2, a3⟩ | ⟨a1, a2, a3⟩ | ⟨a1, -⟩
      · refine Or.inr (Or.inr (Or.inr (Or.inl ⟨g.1.trans a2, c0, rfl, rfl, ?_, Or.inl (by rw [c1, a1]; rfl)⟩)))
        rw [g.2.2.2.2.1, a3, c1, c2, a1]; rfl
      · refine Or.inr (Or.inr (Or.inr (Or.inl ⟨g.1.trans a2, c0, rfl, rfl, ?_, Or.inr (Or.inl (by rw [c1, a1]; rfl))⟩)))
        rw [g.2.2.2.2.1, a3, c1, c2, a1]; rfl
      · exact absurd a1 z4
end
end
section
set_option maxRecDepth 100000
theorem PT_mo {C : Nat → Int} {R : Nat → Nat → Int} {J : Nat → Int64} {H : List Nat} : ∀ {f f2 i p : Nat} {O : List Nat} {j : Nat} {O2 : List Nat}, f ≤ f2 → PTs C R J H f i p O j O2 → PTs C R J H f2 i p O j O2
  | 0, _, _, _, _, _, _, _, h => h.elim
  | f + 1, 0, _, _, _, _, _, hf, _ => by omega
  | f + 1, f2 + 1, i, p, O, j, O2, hf, h => by
    rcases h with h | h | h | h | h | ⟨h1, h2, h3, n, h4, ci, cp, co, h5, h6, h7, h8, h9, h10, h11⟩ | ⟨h1, n, h4, ci, cp, co, h5, h7, h9, h11, h12⟩
    · exact Or.inl h
    · exact Or.inr (Or.inl h)
    · exact Or.inr (Or.inr (Or.inl h))
    · exact Or.inr (Or.inr (Or.inr (Or.inl h)))
    · exact Or.inr (Or.inr (Or.inr (Or.inr (Or.inl h))))
    · exact Or.inr (Or.inr (Or.inr (Or.inr (Or.inr (Or.inl ⟨h1, h2, h3, n, h4, ci, cp, co, h5, h6, h7, h8, h9, h10, fun k hk => ⟨PT_mo (by omega) (h11 k hk).1, (h11 k hk).2⟩⟩)))))
    · refine Or.inr (Or.inr (Or.inr (Or.inr (Or.inr (Or.inr ⟨h1, n, h4, ci, cp, co, h5, h7, h9, fun k hk => ⟨(h11 k hk).1, PT_mo (by omega) (h11 k hk).2.1, (h11 k hk).2.2⟩, ?_⟩)))))
      rcases h12 with h12 | ⟨g1, g2, g3, g4⟩
      · exact Or.inl h12
      · exact Or.inr ⟨g1, g2, g3, PT_mo (by omega) g4⟩
def PTL (C : Nat → Int) (R : Nat → Nat → Int) (J : Nat → Int64) (H : List Nat) (f s : Nat) : Nat → Nat → Nat → List Nat → Nat → Nat → List Nat → Prop
  | 0 => fun _ _ _ _ _ _ => False
  | k + 1 => fun i p O j l O2 => (k = 0 ∧ p = l ∧ (s = 1 → C i = 7) ∧ PTs C R J H f (i + s) l O j O2) ∨ (1 ≤ k ∧ ∃ i1 l1 O1, PTL C R J H f s k i p O i1 l1 O1 ∧ R 37 l1 = ((l : Nat) : Int) ∧ (s = 1 → C i1 = 7) ∧ PTs C R J H f (i1 + s) l O1 j O2)
theorem PTL_fn {C : Nat → Int} {R : Nat → Nat → Int} {J : Nat → Int64} {H : List Nat} {f s : Nat} : ∀ {k i p : Nat} {O : List Nat} {j l : Nat} {O2 : List Nat}, PTL C R J H f s k i p O j l O2 → ∃ (ci cp : Nat → Nat) (co : Nat → List Nat), ci 0 = i ∧ ci k = j ∧ co 0 = O ∧ co k = O2 ∧ cp 0 = p ∧ cp (k - 1) = l ∧ ∀ q, q < k → (s = 1 → C (ci q) = 7) ∧ PTs C R J H f (ci q + s) (cp q) (co q) (ci (q + 1)) (co (q + 1)) ∧ (q + 1 < k → R 37 (cp q) = ((cp (q + 1) : Nat) : Int))
  | 0, _, _, _, _, _, _, h => h.elim
  | k + 1, i, p, O, j, l, O2, h => by
    rcases h with ⟨h1, h2, h3, h4⟩ | ⟨h1, i1, l1, O1, h2, h3, h4, h5⟩
    · subst h1
      subst h2
      refine ⟨fun q => if q = 0 then i else j, fun _ => p, fun q => if q = 0 then O else O2, rfl, rfl, rfl, rfl, rfl, rfl, fun q hq => ?_⟩
      have : q = 0 := by omega
      subst this
      exact ⟨h3, h4, fun z => by omega⟩
    · obtain ⟨ci, cp, co, g1, g2, g3, g4, g5, g6, g7⟩ := PTL_fn h2
      refine ⟨fun q => if q ≤ k then ci q else j, fun q => if q < k then cp q else l, fun q => if q ≤ k then co q else O2, ?_, ?_, ?_, ?_, ?_, ?_, fun q hq => ?_⟩
      · show (if 0 ≤ k then ci 0 else j) = i
        rw [if_pos (by omega)]; exact g1
      · show (if k + 1 ≤ k then ci (k + 1) else j) = j
        rw [if_neg (by omega)]
      · show (if 0 ≤ k then co 0 else O2) = O
        rw [if_pos (by omega)]; exact g3
      · show (if k + 1 ≤ k then co (k + 1) else O2) = O2
        rw [if_neg (by omega)]
      · show (if 0 < k then cp 0 else l) = p
        rw [if_pos (by omega)]; exact g5
      · show (if k + 1 - 1 < k then cp (k + 1 - 1) else l) = l
        rw [if_neg (by omega)]
      · show (s = 1 → C (if q ≤ k then ci q else j) = 7) ∧ PTs C R J H f ((if q ≤ k then ci q else j) + s) (if q < k then cp q else l) (if q ≤ k then co q else O2) (if q + 1 ≤ k then ci (q + 1) else j) (if q + 1 ≤ k then co (q + 1) else O2) ∧ (q + 1 < k + 1 → R 37 (if q < k then cp q else l) = ((if q + 1 < k then cp (q + 1) else l : Nat) : Int))
        rw [if_pos (show q ≤ k by omega), if_pos (show q ≤ k by omega)]
        by_cases z : q < k
        · rw [if_pos z, if_pos (show q + 1 ≤ k by omega), if_pos (show q + 1 ≤ k by omega)]
          refine ⟨(g7 q z).1, (g7 q z).2.1, fun _ => ?_⟩
          by_cases y : q + 1 < k
          · rw [if_pos y]; exact (g7 q z).2.2 y
          · rw [if_neg y]
            have : q = k - 1 := by omega
            rw [this, g6]; exact h3
        · have e : q = k := by omega
          subst e
          rw [if_neg z, if_neg (show ¬ q + 1 ≤ q by omega), if_neg (show ¬ q + 1 ≤ q by omega), g2, g4]
          exact ⟨h4, h5, fun z => absurd z (by omega)⟩
def HPT (N : Nat) (m0 w0 : MS) (K : Nat → Nat) (T : Nat) (nm Nk : Nat → Nat) (f : Nat) : Prop := ∀ (D d n lo hi xa xb q r : Nat) (m w : MS) (a cm pi : Nat) (sc : SCT) (own : Bool) (v1 : Int32), PAcK m0 f n lo hi xa xb q r → xb ≤ 8015 → PCS m0 nm m a cm sc own → PRd w0 T w lo pi sc → tot sc + (hi - lo) ≤ 4000 → decide (v1 = 0) = !own → PP (PTZ m0 w0 K T nm Nk f lo hi own a cm pi sc m w) ((jrc_Cm_listPattern N D).2 m (I (n : Nat))) ((krc_M_rowPattern N d).2 w v1)
def RWA (m0 w0 : MS) (K : Nat → Nat) (T : Nat) (nm Nk : Nat → Nat) (f s lo0 : Nat) (own : Bool) (a0 cm0 rt : Nat) (sc0 : SCT) (mS wS : MS) (j first last : Nat) (m w : MS) (p a cm pi : Nat) (sc : SCT) : Prop := PCS m0 nm m a cm sc own ∧ PRd w0 T w p pi sc ∧ (lo0 ≤ p ∧ a0 ≤ a ∧ rt < pi) ∧ (NMX cm0 cm sc0 sc ∧ tot sc ≤ tot sc0 + (p - lo0)) ∧ (∃ W, HDw own nm Nk K W lo0 p sc0 sc ∧ m.2.2.1 42 = wup (mS.2.2.1 42) K W lo0 p) ∧ CFP mS m a0 (sc0.length - 1) ∧ RFP wS w rt ∧ (w.2.2.1 33 rt = wS.2.2.1 33 rt ∧ w.2.2.1 38 rt = wS.2.2.1 38 rt ∧ w.2.2.1 37 rt = wS.2.2.1 37 rt) ∧ ((j = 0 ∧ a = a0 ∧ pi = rt + 1 ∧ sc = sc0 ∧ w.2.2.1 36 rt = -1) ∨ (1 ≤ j ∧ w.2.2.1 36 rt = I (first : Nat) ∧ ((rt < first ∧ first < pi) ∧ rt < last ∧ last < pi) ∧ w.2.2.1 37 last = -1 ∧ ∀ C R J H, AGC C m a0 a → GRS R w0 → AGP R J w (rt + 1) pi last → HPX nm sc H → PTL C R J H f s j a0 first (Onm nm sc0) a last (Onm nm sc)))
end
section
set_option maxRecDepth 100000
def stp (s N : Nat) (S : SF_Cm_listPattern) (m : MS) (x : Int32) (g : MS → Unit → Option (MS × Unit)) : Option (MS × Unit) := if s = 0 then bnd (S.2 m x) g else bnd (jm_Co_put N m 7) (fun u _ => bnd (S.2 u x) g)
def mrw (q : Nat) (W W2 : Nat → Nat) : Nat → Nat := fun j => if j < q then W j else W2 j
section
variable {β : Type} {m0 w0 m w mS wS m2 w2 m3 w3 : MS} {K nm Nk W W2 : Nat → Nat} {T N n lo lo0 mid hi f s a a0 cm cm0 cm2 b pi pj pn rt j first last p p2 p3 D d xa xb q r : Nat} {sc sc0 sc2 : SCT} {own : Bool} {v1 v5 : Int32} {H : List Nat} {C : Nat → Int} {R : MS → Unit → MS → β → Prop}
theorem nat_ne2 {k : Nat} (hk : k ≤ 100000) : ¬ (I (k : Nat) = (-1 : Int32)) := fun h => by
  have := (I_eq (x := ((k : Nat) : Int)) (y := -1) (by omega) (by omega) (by decide) (by decide)).mp (h.trans (show (-1 : Int32) = I (-1) from rfl))
  omega
theorem HPX_mo (h : HDo Nk K W p p2 sc sc2) (k : HPX nm sc2 H) : HPX nm sc H := by
  cases sc with
  | nil =>
    cases sc2 with
    | nil => exact k
    | cons e t => exact h.elim
  | cons e t =>
    cases sc2 with
    | nil => exact h.elim
    | cons e2 t2 =>
      refine ⟨?_, k.2⟩
      have h1 : e.2.1 <+: e2.2.1 := by rw [h.1]; exact hdc_pre _ _ _
      exact (List.IsPrefix.map nm h1).trans k.1
theorem mrw_tr (h1 : p ≤ p2) (h2 : p2 ≤ p3) (h : HDw own nm Nk K W p p2 sc0 sc) (k : HDw own nm Nk K W2 p2 p3 sc sc2) : HDw own nm Nk K (mrw p2 W W2) p p3 sc0 sc2 := HDw_tr h1 h2 (HDw_w (fun j _ b => if_pos b) h) (HDw_w (fun j a _ => if_neg (by omega)) k)
theorem mrw_wup {g : Nat → Int32} (h1 : p ≤ p2) (h2 : p2 ≤ p3) : wup (wup g K W p p2) K W2 p2 p3 = wup g K (mrw p2 W W2) p p3 := by
  rw [← wup_tr (W := mrw p2 W W2) h1 h2]
  rw [wup_w (W := W) (W2 := mrw p2 W W2) (fun j _ b => if_pos b), wup_w (W := W2) (W2 := mrw p2 W W2) (fun j a _ => if_neg (by omega))]
theorem AGC_sub (h : AGC C m2 a b) (e : ∀ j, j < p → m2.2.2.1 23 j = m.2.2.1 23 j) (h1 : p ≤ b) : AGC C m a p := fun k a1 a2 => by
  rw [h k a1 (by omega)]
  show (m2.2.2.1 23 k).toInt = _
  rw [e k a2]; rfl
theorem row_1 {F : MS → Unit → Option (MS × Unit)} {G : MS → Int32 → Option (MS × β)} (IH : HPT N m0 w0 K T nm Nk f) (ra : RWA m0 w0 K T nm Nk f s lo0 own a0 cm0 rt sc0 mS wS j first last m w lo a cm pi sc) (hs : s ≤ 1) (hrt : rt < 5000) (pa : PAcK m0 f n lo mid xa xb q r) (hxb : xb ≤ 8015) (htot : tot sc0 + (mid - lo0) ≤ 4000) (ho : decide (v1 = 0) = !own) (h5 : (j = 0 ∧ v5 = -1) ∨ (1 ≤ j ∧ v5 = I (last : Nat))) (hk : ∀ m2 w2 b cm2 pj sc2 f2 l2, RWA m0 w0 K T nm Nk f s lo0 own a0 cm0 rt sc0 mS wS (j + 1) f2 l2 m2 w2 mid b cm2 pj sc2 → PP R (F m2 ()) (G w2 (I (l2 : Nat)))) : PP R (stp s N (jrc_Cm_listPattern N D) m (I (n : Nat)) F) (bnd ((krc_M_rowPattern N d).2 w v1) (fun u10 r10 => br (decide (v5 = -1)) (ck (inb (I (rt : Nat)) (ln 36)) (lt (upA u10 36 (upd (u10.2.2.1 36) (I (rt : Nat)).toNatClampNeg r10)) (fun w12 => G w12 r10))) (ck (inb v5 (ln 37)) (lt (upA u10 37 (upd (u10.2.2.1 37) v5.toNatClampNeg r10)) (fun w11 => G w11 r10))))) := by
  obtain ⟨r1, r2, r3, r4, ⟨W, r5, r6⟩, r7, r8, r9, r10⟩ := ra
  have hd := PA_bdK _ _ _ _ _ _ _ _ pa
  unfold HDc at hd
  have main : ∀ (m1 : MS) (a1 : Nat), PCS m0 nm m1 a1 cm sc own → CFP m m1 a (sc.length - 1) → m1.2.2.1 42 = m.2.2.1 42 → a1 = a + s → (s = 1 → A m1 23 a = 7) → PP R (bnd ((jrc_Cm_listPattern N D).2 m1 (I (n : Nat))) F) (bnd ((krc_M_rowPattern N d).2 w v1) (fun u10 r10 => br (decide (v5 = -1)) (ck (inb (I (rt : Nat)) (ln 36)) (lt (upA u10 36 (upd (u10.2.2.1 36) (I (rt : Nat)).toNatClampNeg r10)) (fun w12 => G w12 r10))) (ck (inb v5 (ln 37)) (lt (upA u10 37 (upd (u10.2.2.1 37) v5.toNatClampNeg r10)) (fun w11 => G w11 r10))))) := by
    intro m1 a1 c1 f1 e42 ea1 h7
    refine pp_bb (pp_mo (IH D d n lo mid xa xb q r m1 w a1 cm pi sc own v1 pa hxb c1 r2 (by omega) ho) (fun m2 z w2 rr h => ?_))
    obtain ⟨pn, b, pj, cm2, sc2, W2, e1, e2, e3, e4, e5, e6, e7, e8, e9, e10, e11⟩ := h
    subst e1
    have sl : sc.length = sc0.length := NMX_len r4.1
    have f9 : CFP mS m2 a0 (sc0.length - 1) := by
      rw [← sl]
      exact CFP_tr (by rw [sl]; exact r7) (CFP_tr f1 e9 (by omega)) (by omega)
    have hw42 : m2.2.2.1 42 = wup (mS.2.2.1 42) K (mrw lo W W2) lo0 mid := by rw [e8, e42, r6, mrw_wup r3.1 (by omega)]
    have hHD := mrw_tr r3.1 (show lo ≤ mid by omega) r5 e7
    have rtr : ∀ k, k < 59 → w2.2.2.1 k rt = w.2.2.1 k rt := fun k hk => e10.2.2.1 k rt r3.2.2 hk
    have old : ∀ k q, q < pi → k < 59 → w2.2.2.1 k q = w.2.2.1 k q := fun k q hq hk => e10.2.2.1 k q hq hk
    have m2m : ∀ q, q < a → m2.2.2.1 23 q = m.2.2.1 23 q := fun q hq => (e9.2.2.1 q (by omega)).trans (f1.2.2.1 q hq)
    have fin : ∀ (w3 : MS) (f2 : Nat), PRd w0 T w3 mid pj sc2 → RFP wS w3 rt → (w3.2.2.1 33 rt = wS.2.2.1 33 rt ∧ w3.2.2.1 38 rt = wS.2.2.1 38 rt ∧ w3.2.2.1 37 rt = wS.2.2.1 37 rt) → w3.2.2.1 36 rt = I (f2 : Nat) → (rt < f2 ∧ f2 < pj) → w3.2.2.1 37 pn = -1 → (∀ C R J H, AGC C m2 a0 b → GRS R w0 → AGP R J w3 (rt + 1) pj pn → HPX nm sc2 H → PTL C R J H f s (j + 1) a0 f2 (Onm nm sc0) b pn (Onm nm sc2)) → PP R (F m2 z) (G w3 (I (pn : Nat))) := fun w3 f2 p1 p2 p3 p4 p4b p5 p6 => hk m2 w3 b cm2 pj sc2 f2 pn ⟨e4, p1, ⟨by omega, by omega, by omega⟩, ⟨NMX_tr r4.1 e6.1, by have := e6.2; have := r4.2; omega⟩, ⟨_, hHD, hw42⟩, f9, p2, p3, Or.inr ⟨by omega, p4, ⟨p4b, by omega, by omega⟩, p5, p6⟩⟩
    have agp : ∀ (R : Nat → Nat → Int) (J : Nat → Int64) (w3 : MS), AGP R J w3 (rt + 1) pj pn → (∀ k q, pi ≤ q → k < 59 → w3.2.2.1 k q = w2.2.2.1 k q) → w3.2.2.2 = w2.2.2.2 → AGP R J w2 pi pj pn := fun R J w3 h hr hj q q1 q2 => by
      obtain ⟨g1, g2, g3, g4, g5, g6⟩ := h q (by omega) q2
      have ee : ∀ k, k < 59 → A w3 k q = A w2 k q := fun k hk => by show (w3.2.2.1 k q).toInt = _; rw [hr k q q1 hk]; rfl
      rw [ee 33 (by decide)] at g1
      rw [ee 35 (by decide)] at g2
      rw [ee 36 (by decide)] at g3
      rw [ee 38 (by decide)] at g4
      rw [hj] at g5
      exact ⟨g1, g2, g3, g4, g5, fun z => by rw [g6 z, ee 37 (by decide)]⟩
    have w7 : ∀ (C : Nat → Int), AGC C m2 a0 b → s = 1 → C a = 7 := fun C h z => by
      rw [h a (by omega) (by omega)]
      show (m2.2.2.1 23 a).toInt = 7
      rw [e9.2.2.1 a (by omega)]
      exact h7 z
    have sub2 : ∀ (C : Nat → Int), AGC C m2 a0 b → AGC C m2 a1 b := fun C h k k1 k2 => h k (by omega) k2
    rcases h5 with ⟨j0, v50⟩ | ⟨j1, v51⟩
    · rw [v50, show decide ((-1 : Int32) = -1) = true from rfl, br_tq]
      refine r_ck (fun _ => r_lt ?_)
      rw [i_nt2 (by omega)]
      rcases r10 with ⟨y1, y2, y3, y4, y5⟩ | ⟨y1, -⟩
      · subst y2
        subst y4
        refine fin _ pn (PRS_k e5 (fun _ _ _ _ => rfl) (fun k hk => upA_no (by omega)) e5.2.1.1 e5.2.1.2 e5.2.2.2.2.2.1 e5.2.2.2.2.2.2) (RFP_A (RFP_tr r8 e10 (by omega)) (by decide) (Nat.le_refl _)) ⟨by rw [upA_no (by decide), rtr 33 (by decide)]; exact r9.1, by rw [upA_no (by decide), rtr 38 (by decide)]; exact r9.2.1, by rw [upA_no (by decide), rtr 37 (by decide)]; exact r9.2.2⟩ (by rw [upA_at, upd_at]) ⟨by omega, by omega⟩ (by rw [upA_no (by decide)]; exact e2.2.2) (fun C R J H gc gr gp gh => ?_)
        subst j0
        refine Or.inl ⟨rfl, rfl, w7 C gc, ?_⟩
        rw [← ea1]
        refine e11 C R J H (sub2 C gc) gr (agp R J _ gp (fun k q hq hk => ?_) rfl) gh
        by_cases z : k = 36
        · rw [z, upA_at, upd_no (by omega)]
        · rw [upA_no z]
      · omega
    · rcases r10 with ⟨y1, -⟩ | ⟨y1, y2, y3, y4, y5⟩
      · omega
      · have lb : last < 5000 := by have := r2.2.2.2.2.2.2; omega
        rw [v51, decide_eq_false (nat_ne2 (by omega)), br_fq]
        refine r_ck (fun _ => r_lt ?_)
        rw [i_nt2 (by omega)]
        refine fin _ first (PRS_k e5 (fun _ _ _ _ => rfl) (fun k hk => upA_no (by omega)) e5.2.1.1 e5.2.1.2 e5.2.2.2.2.2.1 e5.2.2.2.2.2.2) (RFP_A (RFP_tr r8 e10 (by omega)) (by decide) (by omega)) ⟨by rw [upA_no (by decide), rtr 33 (by decide)]; exact r9.1, by rw [upA_no (by decide), rtr 38 (by decide)]; exact r9.2.1, by rw [upA_at, upd_no (by omega), rtr 37 (by decide)]; exact r9.2.2⟩ (by rw [upA_no (by decide), rtr 36 (by decide)]; exact y2) ⟨y3.1.1, by omega⟩ (by rw [upA_at, upd_no (by omega)]; exact e2.2.2) (fun C R J H gc gr gp gh => ?_)
        refine Or.inr ⟨j1, a, last, Onm nm sc, y5 C R J H (AGC_sub gc m2m (by omega)) gr (fun q q1 q2 => ?_) (HPX_mo e7.1 gh), ?_, w7 C gc, ?_⟩
        · obtain ⟨g1, g2, g3, g4, g5, g6⟩ := gp q q1 (by omega)
          have ee : ∀ k, k < 59 → k ≠ 37 → A (upA w2 37 (upd (w2.2.2.1 37) last (I (pn : Nat)))) k q = A w k q := fun k hk h37 => by
            show ((upA w2 37 _).2.2.1 k q).toInt = _
            rw [upA_no h37, old k q q2 hk]; rfl
          rw [ee 33 (by decide) (by decide)] at g1
          rw [ee 35 (by decide) (by decide)] at g2
          rw [ee 36 (by decide) (by decide)] at g3
          rw [ee 38 (by decide) (by decide)] at g4
          refine ⟨g1, g2, g3, g4, g5.trans (e10.2.2.2 34 q (Or.inl q2)), fun z => ?_⟩
          rw [g6 (by omega)]
          show ((upA w2 37 _).2.2.1 37 q).toInt = _
          rw [upA_at, upd_no z, old 37 q q2 (by decide)]; rfl
        · rw [(gp last (by omega) (by omega)).2.2.2.2.2 (by omega)]
          show ((upA w2 37 _).2.2.1 37 last).toInt = _
          rw [upA_at, upd_at]
          have := e5.2.2.2.2.2.2
          exact I_ti (by omega) (by omega)
        · rw [← ea1]
          refine e11 C R J H (sub2 C gc) gr (agp R J _ gp (fun k q hq hk => ?_) rfl) gh
          by_cases z : k = 37
          · rw [z, upA_at, upd_no (by omega)]
          · rw [upA_no z]
  unfold stp
  by_cases z : s = 0
  · rw [if_pos z]
    exact main m a r1 CFP_rf rfl (by omega) (fun y => by omega)
  · rw [if_neg z]
    refine l_put r1.2.2.1.1 r1.2.2.1.2.2 (fun ha => ?_)
    exact main _ (a + 1) (PCS_put r1 ha) (CFP_put CFP_rf (Nat.le_refl _)) (ptc_r (by decide)) (by omega) (fun _ => by rw [ptc_x]; rfl)
end
end
section
set_option maxRecDepth 100000
section
variable {β : Type} {m0 w0 m w mS wS m2 w2 m3 w3 : MS} {K nm Nk : Nat → Nat} {T N n lo lo0 mid hi f s a a0 cm cm0 b pi pj rt j kk first last p d D xb r : Nat} {sc sc0 sc2 : SCT} {own : Bool} {v1 v2 v3 v5 : Int32} {CL : Nat → MS → Int32 → Option (MS × Unit)} {R : MS → Unit → MS → Int32 → Prop}
theorem HDo_ext {W : Nat → Nat} (h : HDw own nm Nk K W lo0 p sc0 sc) (h1 : lo0 ≤ p) (hk : K p ≠ 3) : HDw own nm Nk K W lo0 (p + 1) sc0 sc := HDw_tr h1 (by omega) h (HDw_gap (fun j a b => by rw [show j = p by omega]; exact hk))
theorem wup_ex1 {g : Nat → Int32} {W : Nat → Nat} (h1 : lo0 ≤ p) (hk : K p ≠ 3) : wup g K W lo0 (p + 1) = wup g K W lo0 p := by
  rw [← wup_tr (q := p) h1 (by omega), wup_0 (p := p) (fun j a b => by rw [show j = p by omega]; exact hk)]
theorem PRS_ad (h : PRd w0 T w p pi sc) (hl : p < T) : PRd w0 T (adv w p) (p + 1) pi sc := PRS_k h (fun k h1 h2 h3 => upI_ne h3) (fun _ _ => rfl) upI_at hl (by unfold adv; rw [upI_ne (by decide)]; exact h.2.2.2.2.2.1) h.2.2.2.2.2.2
theorem RWA_ad (h : RWA m0 w0 K T nm Nk f s lo0 own a0 cm0 rt sc0 mS wS j first last m w p a cm pi sc) (hl : p < T) (hk : K p ≠ 3) : RWA m0 w0 K T nm Nk f s lo0 own a0 cm0 rt sc0 mS wS j first last m (adv w p) (p + 1) a cm pi sc := by
  obtain ⟨r1, r2, r3, r4, ⟨W, r5, r6⟩, r7, r8, r9, r10⟩ := h
  exact ⟨r1, PRS_ad r2 hl, ⟨by omega, r3.2⟩, ⟨r4.1, by have := r4.2; omega⟩, ⟨W, HDo_ext r5 r3.1 hk, by rw [wup_ex1 r3.1 hk]; exact r6⟩, r7, RFP_I r8 (Or.inr (Or.inr rfl)), r9, r10⟩
theorem rowd_lp (c : CTZ m0 w0 K T nm Nk) (IH : HPT N m0 w0 K T nm Nk f) (hC0 : ∀ m x, CL 0 m x = none) (hCL : ∀ M m n, 1 ≤ n → n ≤ 8015 → CL (M + 1) m (I ((n : Nat) : Int)) = stp s N (jrc_Cm_listPattern N D) m (I (n : Nat)) (fun u _ => ck (inb (I (n : Nat)) 8016) (CL M u (u.2.2.1 21 n)))) (hs : s ≤ 1) (hrt : rt < 5000) (hxb : xb ≤ 8015) (htot : tot sc0 + (hi - lo0) ≤ 4000) (ho : decide (v1 = 0) = !own) (hK : hi ≤ T → K hi ≠ 26) (hkk : kk ≤ 8)
    (hend : ∀ M1 M2 m2 w2 b cm2 pj sc2 f2 l2, RWA m0 w0 K T nm Nk f s lo0 own a0 cm0 rt sc0 mS wS kk f2 l2 m2 w2 hi b cm2 pj sc2 → PP R (CL M1 m2 (I 0)) (kb_M_rowPattern_151 N (krc_M_rowPattern N d) (kg_M_rowPattern N (krc_M_rowPattern N d) M2) w2 v1 v2 v3 (I (rt : Nat)) (I (l2 : Nat)) (I (kk : Nat)))) :
    ∀ (k n lo xa q M1 M2 j first last : Nat) (m w : MS) (a cm pi : Nat) (sc : SCT) (v5 : Int32), RWcK m0 1 26 (PAcK m0 f) k n lo hi xa xb q r → RWA m0 w0 K T nm Nk f s lo0 own a0 cm0 rt sc0 mS wS j first last m w lo a cm pi sc → ((j = 0 ∧ v5 = -1) ∨ (1 ≤ j ∧ v5 = I (last : Nat))) → j + k = kk → PP R (CL M1 m (I (n : Nat))) (kg_M_rowPattern N (krc_M_rowPattern N d) M2 w v1 v2 v3 (I (rt : Nat)) v5 (I (j : Nat)) 1)
  | 0, _, _, _, _, _, _, _, _, _, _, _, _, _, _, _, _, h, _, _, _ => h.elim
  | k + 1, n, lo, xa, q, M1, M2, j, first, last, m, w, a, cm, pi, sc, v5, h, ra, h5, hjk => by
    obtain ⟨mid, c1, s1, e, h⟩ := h
    have hd := PA_bdK _ _ _ _ _ _ _ _ e
    unfold HDc at hd
    have hc : c1 ≤ xb ∧ mid ≤ hi := by
      rcases h with ⟨-, -, h1, h2, -⟩ | ⟨-, n2, -, h3⟩
      · omega
      · have := (RW_hdK (PA_bdK _) h3).1
        unfold HDc at this
        omega
    have t4 := c.2.1.1.1
    cases M1 with
    | zero => rw [hC0]; exact pp_nl
    | succ M1 =>
      cases M2 with
      | zero => exact pp_nr
      | succ M2 =>
        rw [hCL M1 m n (by omega) (by omega)]
        show PP R _ (kb_M_rowPattern_66 N (krc_M_rowPattern N d) (kg_M_rowPattern N (krc_M_rowPattern N d) M2) w v1 v2 v3 (I (rt : Nat)) v5 (I (j : Nat)) 1)
        unfold kb_M_rowPattern_66
        rw [show decide ((1 : Int32) = 0) = false from rfl, br_fq, decide_eq_true ra.2.1.2.2.1, br_tq]
        refine row_1 (G := fun w12 r10 => kb_M_rowPattern_112 N (krc_M_rowPattern N d) (kg_M_rowPattern N (krc_M_rowPattern N d) M2) w12 v1 v2 v3 (I (rt : Nat)) (I (j : Nat)) r10) IH ra hs hrt e (by omega) (by omega) ho h5 (fun m2 w2 b cm2 pj sc2 f2 l2 ra2 => ?_)
        have hw2 := PRS_w c ra2.2.1
        have h67 := ra2.2.1.2.2.1
        refine l_ck (fun _ => ?_)
        have e140 : PP R (CL M1 m2 (m2.2.2.1 21 n)) (kb_M_rowPattern_140 N (krc_M_rowPattern N d) (kg_M_rowPattern N (krc_M_rowPattern N d) M2) w2 v1 v2 v3 (I (rt : Nat)) (I (l2 : Nat)) (I ((j + 1 : Nat) : Int))) := by
          unfold kb_M_rowPattern_140
          rw [tkS_e (k := 26) (s := 6) hw2 h67 (by decide) rfl]
          rcases h with ⟨h1, h2, h3, h4, h6⟩ | ⟨⟨h1, hsep⟩, n2, h2, h3⟩
          · subst h3
            rw [if_neg (hK ra2.2.1.2.1.2), bnd_s, tre ra2.1.1 (by decide) h2]
            cases M2 with
            | zero => exact pp_nr
            | succ M2 =>
              show PP R _ (kb_M_rowPattern_66 N (krc_M_rowPattern N d) (kg_M_rowPattern N (krc_M_rowPattern N d) M2) w2 v1 v2 v3 (I (rt : Nat)) (I (l2 : Nat)) (I ((j + 1 : Nat) : Int)) 0)
              unfold kb_M_rowPattern_66
              rw [show decide ((0 : Int32) = 0) = true from rfl, br_tq]
              have ej : j + 1 = kk := by omega
              rw [ej] at ra2 ⊢
              exact hend M1 M2 m2 w2 b cm2 pj sc2 f2 l2 ra2
          · have k26 : K mid = 26 := by
              have z := hsep rfl
              have z2 : A m0 6 mid = ((K mid : Nat) : Int) := by
                show (m0.2.2.1 6 mid).toInt = _
                rw [c.1.2 mid ra2.2.1.2.1.2]
                have := c.1.1.k46 ra2.2.1.2.1.2
                exact I_ti (by omega) (by omega)
              rw [z2] at z
              omega
            have hl : mid < T := c.2.1.1.lt ra2.2.1.2.1.2 (by omega) (by omega)
            rw [if_pos k26, bnd_s, tre ra2.1.1 (by decide) h2]
            exact rowd_lp c IH hC0 hCL hs hrt hxb htot ho hK hkk hend k n2 (mid + 1) c1 s1 M1 M2 (j + 1) f2 l2 m2 (adv w2 mid) b cm2 pj sc2 (I (l2 : Nat)) h3 (RWA_ad ra2 hl (by omega)) (Or.inr ⟨by omega, rfl⟩) (by omega)
        show PP R (CL M1 m2 (m2.2.2.1 21 n)) (kb_M_rowPattern_112 N (krc_M_rowPattern N d) (kg_M_rowPattern N (krc_M_rowPattern N d) M2) w2 v1 v2 v3 (I (rt : Nat)) (I (j : Nat)) (I (l2 : Nat)))
        unfold kb_M_rowPattern_112
        rw [i_suc]
        refine r_br (fun _ => ?_) (fun _ => e140)
        rw [isS_e (k := 26) (s := 6) hw2 (by decide) rfl, bnd_s]
        by_cases z : K mid = 26
        · rw [if_pos z, show decide ((1 : Int32) = 0) = false from rfl, br_fq]
          exact pp_nr
        · rw [if_neg z, show decide ((0 : Int32) = 0) = true from rfl, br_tq]
          exact e140
end
end
section
set_option maxRecDepth 100000
section
variable {α β γ : Type} {m0 w0 m w mS wS m2 w2 m3 w3 M : MS} {K nm Nk : Nat → Nat} {T N n lo lo0 mid hi f s a a0 cm cm0 b pi pj rt j kk first last p d D xa xb q r : Nat} {sc sc0 sc2 : SCT} {own : Bool} {v1 v2 v3 v5 : Int32} {R : MS → α → MS → β → Prop} {A' : Option (MS × α)} {B' : Option (MS × β)}
theorem pp_rb {X : Option (MS × γ)} {g : MS → γ → Option (MS × β)} (h : PP (fun m z w r => PK (fun v q => R m z v q) (g w r)) A' X) : PP R A' (bnd X g) := fun m z w r ea eb => by
  cases X with
  | none => cases eb
  | some x => exact h m z x.1 x.2 ea rfl w r eb
theorem pp_lb {X : Option (MS × γ)} {g : MS → γ → Option (MS × α)} (h : PP (fun m z w r => PK (fun v q => R v q w r) (g m z)) X B') : PP R (bnd X g) B' := fun m z w r ea eb => by
  cases X with
  | none => cases ea
  | some x => exact h x.1 x.2 w r rfl eb m z ea
theorem kA (c : CTZ m0 w0 K T nm Nk) {p k : Nat} (hp : p ≤ T) (h : A m0 6 p = ((k : Nat) : Int)) : K p = k := by
  have z2 : A m0 6 p = ((K p : Nat) : Int) := by
    show (m0.2.2.1 6 p).toInt = _
    rw [c.1.2 p hp]
    have := c.1.1.k46 hp
    exact I_ti (by omega) (by omega)
  rw [z2] at h
  omega
theorem need_k (h : WP w K T p) (h0 : w.1 67 = 0) {k : Nat} {s : Int32} (hk : 20 ≤ k ∧ k ≤ 44) (hs : s = I (svK k : Nat)) {g : MS → Unit → Option (MS × β)} (hh : K p = k → PP R A' (g (adv w p) ())) : PP R A' (bnd (km_M_needSign N w s) g) := by
  unfold km_M_needSign kb_M_needSign_0 kb_M_needSign_13
  rw [tkS_e h h0 hk hs]
  by_cases z : K p = k
  · rw [if_pos z]
    exact hh z
  · rw [if_neg z]
    exact pp_nr
end
section
variable {m0 w0 m w mS wS m2 w2 m3 w3 M : MS} {K nm Nk : Nat → Nat} {T N n n1 lo lo0 mid hi f s a a0 cm cm0 b pi pj rt j kk first last p d D xa xb q r : Nat} {sc sc0 sc2 : SCT} {own : Bool} {v1 v2 v3 v5 : Int32}
theorem ptd_neg {S : SF_Cm_listPattern} {S2 : SG_M_rowPattern} (c : CTZ m0 w0 K T nm Nk) (cv : CTV m0 w0 K T) (hC : PCS m0 nm m a cm sc own) (hR : PRd w0 T w lo pi sc) (hn : n ≤ 100000) (hn1 : n1 ≤ 100000) (h16 : A m0 16 n = 17) (h18 : A m0 18 n = ((n1 : Nat) : Int)) (hlf : LFc m0 n1 (lo + 1)) (h61 : A m0 6 (lo + 1) = 1) (h60 : A m0 6 lo = 34) : PP (PTZ m0 w0 K T nm Nk (f + 1) lo (lo + 2) own a cm pi sc m w) (jm_Cm_pattern N S m (I (n : Nat))) (km_M_patternAt N S2 w v1) := by
  have k0 : K lo = 34 := kA c hR.2.1.2 h60
  have hl : lo < T := c.1.1.lt hR.2.1.2 (by omega) (by omega)
  have k1 : K (lo + 1) = 1 := kA c hl h61
  have hl1 : lo + 1 < T := c.1.1.lt hl (by omega) (by omega)
  obtain ⟨e, t, rfl⟩ := PRS_ne hR
  have no3 : ∀ j, lo ≤ j → j < lo + 2 → K j ≠ 3 := fun j a b => by
    by_cases z : j = lo
    · rw [z]; omega
    · rw [show j = lo + 1 by omega]; omega
  refine rp_neg c hR k0 k1 (fun w2 r1 r2 _ h5 r3 => ?_)
  refine cp_neg hC hn h16 h18 hn1 (fun m2 q1 q2 q3 q4 => pp_end ?_)
  refine ⟨pi, a + 3, pi + 1, cm, e :: t, fun _ => 0, rfl, ⟨Nat.le_refl _, by omega, r3.1⟩, by omega, q1, r1, ⟨NMX_rf, by omega⟩, HDw_gap no3, by rw [wup_0 no3, q3], q2, r2, fun C R J H gc gr gp gh => ?_⟩
  have g := gp pi (Nat.le_refl _) (by omega)
  have e18 : m0.2.2.1 18 n1 = w0.2.2.1 7 (lo + 1) := by
    rw [show m0.2.2.1 18 n1 = m0.2.2.1 7 (lo + 1) from by rw [I_of (m0.2.2.1 18 n1), I_of (m0.2.2.1 7 (lo + 1))]; exact congrArg I hlf.2.2.2]
    exact (cv (lo + 1) hl1).2.1 (Or.inl k1)
  refine Or.inr (Or.inr (Or.inr (Or.inl ⟨g.1.trans r3.2.1, (gc a (Nat.le_refl _) (by omega)).trans q4.1, rfl, rfl, ?_, Or.inl ((gc (a + 1) (by omega) (by omega)).trans q4.2.1)⟩)))
  rw [g.2.2.2.2.1, r3.2.2, gc (a + 1) (by omega) (by omega), q4.2.1, gc (a + 2) (by omega) (by omega), q4.2.2, e18]
theorem ptd_grp (c : CTZ m0 w0 K T nm Nk) (IH : HPT N m0 w0 K T nm Nk f) (hC : PCS m0 nm m a cm sc own) (hR : PRd w0 T w lo pi sc) (hn : n ≤ 100000) (h16 : A m0 16 n = 5) (h18 : A m0 18 n = ((n1 : Nat) : Int)) (pa : PAcK m0 f n1 (lo + 1) (hi - 1) xa xb q r) (hxb : xb ≤ 8015) (h60 : A m0 6 lo = 20) (h61 : A m0 6 (hi - 1) = 21) (hlh : lo + 2 ≤ hi) (htot : tot sc + (hi - lo) ≤ 4000) (ho : decide (v1 = 0) = !own) : PP (PTZ m0 w0 K T nm Nk (f + 1) lo hi own a cm pi sc m w) (jm_Cm_pattern N (jrc_Cm_listPattern N D) m (I (n : Nat))) (km_M_patternAt N (krc_M_rowPattern N d) w v1) := by
  have fr := hC.1
  have k0 : K lo = 20 := kA c hR.2.1.2 h60
  have hl : lo < T := c.1.1.lt hR.2.1.2 (by omega) (by omega)
  have t4 := c.1.1.1
  unfold jm_Cm_pattern jb_Cm_pattern_0
  refine l_ck (fun hb => ?_)
  rw [i_nt2 hn, tre fr (by decide) h16]
  rw [decide_eq_false (show ¬ (I 5 = (1 : Int32)) by decide), br_fq, decide_eq_false (show ¬ (I 5 = (2 : Int32)) by decide), br_fq, decide_eq_false (show ¬ (I 5 = (3 : Int32)) by decide), br_fq, decide_eq_false (show ¬ (I 5 = (4 : Int32)) by decide), br_fq, decide_eq_true (show (I 5 = (5 : Int32)) by decide), br_tq]
  refine l_ck (fun _ => ?_)
  rw [tre fr (by decide) h18]
  refine kpA (PRS_w c hR) hR.2.2.1 (by rw [k0]; rfl) ?_
  rw [if_neg (by omega)]
  have hM := PRS_70 (x := w.1 70 + 1) hR
  have er : (upI w 70 (w.1 70 + 1)).2.2.1 = w.2.2.1 := rfl
  have cl : ∀ (v : MS) (pi : Nat), RFP (upI w 70 (w.1 70 + 1)) v pi → RFP w (upI v 70 (v.1 70 - 1)) pi := fun v pi h => cl70 h
  generalize upI w 70 (w.1 70 + 1) = M at hM er cl
  have hM1 := PRS_w c hM
  obtain ⟨-, b0, -⟩ := WP_i hM1
  have s2 : decide (M.2.2.1 6 lo = 2) = decide (K lo = 3) := srt_dc hM1 srK_2
  have s4 : decide (M.2.2.1 6 lo = 4) = decide (K lo = 1) := srt_dc hM1 srK_4
  have s1 : decide (M.2.2.1 6 lo = 1) = decide (K lo = 2) := srt_dc hM1 srK_1
  have s5 : decide (M.2.2.1 6 lo = 5) = decide (K lo = 4) := srt_dc hM1 srK_5
  unfold kpB
  refine r_ck (fun _ => ?_)
  rw [b0, s2, decide_eq_false (by omega), br_fq, show decide ((0 : Int32) = 0) = true from rfl, br_tq]
  refine r_ck (fun _ => ?_)
  rw [s4, decide_eq_false (by omega), br_fq]
  refine r_ck (fun _ => ?_)
  rw [s1, decide_eq_false (by omega), br_fq]
  refine r_ck (fun _ => ?_)
  rw [s5, decide_eq_false (by omega), br_fq, tkS_e (k := 20) (s := 0) hM1 hM.2.2.1 (by decide) rfl, if_pos k0, bnd_s, show decide ((1 : Int32) = 0) = false from rfl, br_fq]
  have hA := PRS_ad hM hl
  refine pp_bb (pp_mo (IH D d n1 (lo + 1) (hi - 1) xa xb q r m (adv M lo) a cm pi sc own v1 pa hxb hC hA (by omega) ho) (fun m2 z w2 rr h => ?_))
  obtain ⟨pn, b, pj, cm2, sc2, W, e1, e2, e3, e4, e5, e6, e7, e8, e9, e10, e11⟩ := h
  unfold jb_Cm_pattern_298 kb_M_patternAt_388
  refine need_k (PRS_w c e5) e5.2.2.1 (k := 21) (by decide) rfl (fun k21 => r_lt ?_)
  have hl2 : hi - 1 < T := c.1.1.lt e5.2.1.2 (by omega) (by omega)
  have f1 : RFP M (adv w2 (hi - 1)) pi := RFP_I (RFP_tr (RFP_I RFP_rf (Or.inr (Or.inr rfl))) e10 (Nat.le_refl _)) (Or.inr (Or.inr rfl))
  have n20 : ∀ j, lo ≤ j → j < lo + 1 → K j ≠ 3 := fun j a b => by rw [show j = lo by omega]; omega
  have n21 : ∀ j, hi - 1 ≤ j → j < hi → K j ≠ 3 := fun j a b => by rw [show j = hi - 1 by omega]; omega
  have p1 := PRS_ad e5 hl2
  rw [show hi - 1 + 1 = hi by omega] at p1
  refine pp_end ⟨pn, b, pj, cm2, sc2, W, e1, e2, e3, e4, PRS_70 p1, ⟨e6.1, by have := e6.2; omega⟩, HDw_tr (by omega) (by omega) (HDw_gap n20) (HDw_tr (by omega) (by omega) e7 (HDw_gap n21)), ?_, e9, cl _ _ f1, fun C R J H gc gr gp gh => PT_mo (by omega) (e11 C R J H gc gr gp gh)⟩
  rw [e8, ← wup_tr (p := lo) (q := lo + 1) (p2 := hi) (by omega) (by omega), wup_0 (p := lo) n20, ← wup_tr (p := lo + 1) (q := hi - 1) (p2 := hi) (by omega) (by omega), wup_0 (p := hi - 1) n21]
end
end
section
set_option maxRecDepth 100000
def RKD (kd cl : Nat) (x v2 v3 : Int32) : Prop := (kd = 22 ∧ cl = 23 ∧ x = 5 ∧ v2 = 1 ∧ v3 = 3) ∨ (kd = 24 ∧ cl = 25 ∧ x = 6 ∧ v2 = 0 ∧ v3 = 5)
def wRW (w : MS) (pi : Nat) (x : Int32) (lo : Nat) : MS := adv (nPd (upI w 70 (w.1 70 + 1)) pi x) lo
section
variable {α : Type} {m0 w0 m w : MS} {K nm Nk : Nat → Nat} {T N lo pi d kd cl : Nat} {sc : SCT} {x v1 v2 v3 : Int32} {R : MS → α → MS → Int32 → Prop} {A' : Option (MS × α)}
theorem PRS_P (h : PRd w0 T w lo pi sc) (h5 : pi < 5000) : PRd w0 T (nPd w pi x) lo (pi + 1) sc := PRS_k h (fun k h1 h2 h3 => nwP_i h1) (fun k hk => nwP_r hk) (by rw [nwP_i (by decide)]; exact h.2.1.1) h.2.1.2 nwP_n (by omega)
theorem nat_n0 {k : Nat} (h1 : 1 ≤ k) (hk : k ≤ 100000) : ¬ (I (k : Nat) = (0 : Int32)) := fun h => by
  have := (I_eq (x := ((k : Nat) : Int)) (y := 0) (by omega) (by omega) (by decide) (by decide)).mp (h.trans (show (0 : Int32) = I 0 from rfl))
  omega
theorem pa_k1 {u : MS} {f n lo hi a b q r : Nat} (h : PAcK u f n lo hi a b q r) : A u 6 lo ≠ 21 ∧ A u 6 lo ≠ 23 ∧ A u 6 lo ≠ 25 ∧ A u 6 lo ≠ 19 ∧ A u 6 lo ≠ 29 := by
  cases f with
  | zero => exact h.elim
  | succ f =>
    obtain ⟨-, -, -, h⟩ := h
    rcases h with ⟨⟨-, h, -⟩, -⟩ | ⟨-, m, -, -, -, -, -, h⟩ | ⟨-, m, c, -, -, -, h, -⟩ | ⟨-, k, m, c, -, -, ⟨-, h, -⟩, -⟩ | ⟨-, k, m, mid, c, s, -, -, ⟨-, h, -⟩, -⟩ <;> omega
theorem rw_k1 {u : MS} {f k n lo hi a b q r : Nat} (h : RWcK u 1 26 (PAcK u f) k n lo hi a b q r) : A u 6 lo ≠ 21 ∧ A u 6 lo ≠ 23 ∧ A u 6 lo ≠ 25 ∧ A u 6 lo ≠ 19 ∧ A u 6 lo ≠ 29 := by
  cases k with
  | zero => exact h.elim
  | succ k =>
    obtain ⟨m, c, s, h, -⟩ := h
    exact pa_k1 h
theorem Kne (c : CTZ m0 w0 K T nm Nk) {p k : Nat} (hp : p ≤ T) (h : A m0 6 p ≠ ((k : Nat) : Int)) : K p ≠ k := fun e => h (by
  show (m0.2.2.1 6 p).toInt = _
  rw [c.1.2 p hp]
  have := c.1.1.k46 hp
  rw [e]
  exact I_ti (by omega) (by omega))
theorem rr_start (c : CTZ m0 w0 K T nm Nk) (hR : PRd w0 T w lo pi sc) (hk : K lo = kd) (hd : RKD kd cl x v2 v3) (hh : ∀ d2, lo < T → pi < 5000 → PRd w0 T (wRW w pi x lo) (lo + 1) (pi + 1) sc → PP (fun m z v r => R m z (upI v 70 (v.1 70 - 1)) r) A' (if K (lo + 1) = cl then kb_M_rowPattern_194 N (krc_M_rowPattern N d2) (kg_M_rowPattern N (krc_M_rowPattern N d2) N) (wRW w pi x lo) v3 (I (pi : Nat)) 0 else kg_M_rowPattern N (krc_M_rowPattern N d2) N (wRW w pi x lo) v1 v2 v3 (I (pi : Nat)) (-1) 0 1)) : PP R A' (km_M_patternAt N (krc_M_rowPattern N d) w v1) := by
  have hkk : K lo = 22 ∨ K lo = 24 := by rcases hd with h | h <;> omega
  have hl : lo < T := c.1.1.lt hR.2.1.2 (by omega) (by omega)
  have t4 := c.1.1.1
  refine kpA (PRS_w c hR) hR.2.2.1 (by rcases hkk with z | z <;> rw [z] <;> rfl) ?_
  rw [if_neg (by omega)]
  have hM := PRS_70 (x := w.1 70 + 1) hR
  unfold wRW at hh
  generalize upI w 70 (w.1 70 + 1) = M at hM hh
  have hM1 := PRS_w c hM
  obtain ⟨-, b0, -⟩ := WP_i hM1
  have s2 : decide (M.2.2.1 6 lo = 2) = decide (K lo = 3) := srt_dc hM1 srK_2
  have s4 : decide (M.2.2.1 6 lo = 4) = decide (K lo = 1) := srt_dc hM1 srK_4
  have s1 : decide (M.2.2.1 6 lo = 1) = decide (K lo = 2) := srt_dc hM1 srK_1
  have s5 : decide (M.2.2.1 6 lo = 5) = decide (K lo = 4) := srt_dc hM1 srK_5
  unfold kpB
  refine r_ck (fun _ => ?_)
  rw [b0, s2, decide_eq_false (by omega), br_fq, show decide ((0 : Int32) = 0) = true from rfl, br_tq]
  refine r_ck (fun _ => ?_)
  rw [s4, decide_eq_false (by omega), br_fq]
  refine r_ck (fun _ => ?_)
  rw [s1, decide_eq_false (by omega), br_fq]
  refine r_ck (fun _ => ?_)
  rw [s5, decide_eq_false (by omega), br_fq, tkS_e (k := 20) (s := 0) hM1 hM.2.2.1 (by decide) rfl, if_neg (by omega), bnd_s, show decide ((0 : Int32) = 0) = true from rfl, br_tq]
  refine pp_rb ?_
  cases d with
  | zero => exact pp_nr
  | succ d2 =>
    show PP _ A' (km_M_rowPattern N (krc_M_rowPattern N d2) M v1)
    unfold km_M_rowPattern kb_M_rowPattern_0
    rw [isS_e (k := 22) (s := 2) hM1 (by decide) rfl, bnd_s]
    have main : PP (fun m z w r => PK (fun v q => R m z v q) (kb_M_patternAt_388 N (krc_M_rowPattern N (d2 + 1)) () w r)) A' (kb_M_rowPattern_27 N (krc_M_rowPattern N d2) (kg_M_rowPattern N (krc_M_rowPattern N d2) N) M v1 v2 v3 x) := by
      unfold kb_M_rowPattern_27
      refine r_pat hM.2.2.2.2.2.1 hM.2.2.2.2.2.2 (by rcases hd with h | h <;> rw [h.2.2.1] <;> rfl) (fun h5 => r_lt ?_)
      have e69 : upI (nPd M pi x) 69 ((nPd M pi x).1 69 + 1) = adv (nPd M pi x) lo := by
        rw [nwP_i (by decide), hM.2.1.1, i_suc]
        rfl
      rw [e69]
      have hA : PRd w0 T (adv (nPd M pi x) lo) (lo + 1) (pi + 1) sc := PRS_ad (PRS_P hM h5) hl
      have hh2 := pp_mo (R2 := fun m z w r => PK (fun v q => R m z v q) (kb_M_patternAt_388 N (krc_M_rowPattern N (d2 + 1)) () w r)) (hh d2 hl h5 hA) (fun m z v r h => by
        unfold kb_M_patternAt_388
        rw [lt_e]
        exact pk_some h)
      generalize adv (nPd M pi x) lo = v at hA hh2
      rw [decide_eq_true hA.2.2.1, br_tq, isS_e (k := cl) (s := v3) (PRS_w c hA) (by rcases hd with h | h <;> omega) (by rcases hd with h | h <;> rw [h.2.1, h.2.2.2.2] <;> rfl), bnd_s]
      by_cases z : K (lo + 1) = cl
      · rw [if_pos z] at hh2 ⊢
        rw [show decide ((1 : Int32) = 0) = false from rfl, br_fq]
        exact hh2
      · rw [if_neg z] at hh2 ⊢
        rw [show decide ((0 : Int32) = 0) = true from rfl, br_tq]
        exact hh2
    rcases hd with ⟨h1, -, h3, h4, h5⟩ | ⟨h1, -, h3, h4, h5⟩
    · rw [if_pos (by omega), show decide ((1 : Int32) = 0) = false from rfl, br_fq]
      unfold kb_M_rowPattern_15
      rw [show decide ((1 : Int32) = 0) = false from rfl, br_fq]
      rw [h3, h4, h5] at main
      exact main
    · rw [if_neg (by omega), show decide ((0 : Int32) = 0) = true from rfl, br_tq]
      unfold kb_M_rowPattern_15
      rw [show decide ((0 : Int32) = 0) = true from rfl, br_tq]
      rw [h3, h4, h5] at main
      exact main
end
section
variable {m0 w0 m w mS m2 w2 m3 w3 : MS} {K nm Nk W : Nat → Nat} {T N n lo hi f s a a0 b cm cm2 cm3 pi pj kk first last d D xb r kd cl : Nat} {sc sc2 sc3 : SCT} {own : Bool} {x v1 v2 v3 : Int32}
theorem rowd_fin {S : SG_M_rowPattern} {G : MS → Int32 → Int32 → Int32 → Int32 → Int32 → Int32 → Int32 → Option (MS × Int32)} (c : CTZ m0 w0 K T nm Nk) (hlo : lo < T) (hk : K lo = kd) (hd : RKD kd cl x v2 v3) (hp5 : pi < 5000) (hlh : lo + 2 ≤ hi) (hC : PCS m0 nm m3 b cm3 sc3 own) (hR : PRd w0 T w3 (hi - 1) pj sc3) (hpj : pi < pj) (hab : a < b) (hX : NMX cm cm3 sc sc3) (ht : tot sc3 ≤ tot sc + (hi - 1 - lo)) (hH : HDw own nm Nk K W (lo + 1) (hi - 1) sc sc3) (h42 : m3.2.2.1 42 = wup (m.2.2.1 42) K W (lo + 1) (hi - 1)) (hf : CFP m m3 a (sc.length - 1)) (hf2 : RFP (wRW w pi x lo) w3 pi) (h37 : w3.2.2.1 37 pi = -1) (hPT : ∀ C R J H, AGC C m3 a b → GRS R w0 → AGP R J (upA w3 35 (upd (w3.2.2.1 35) pi (I (kk : Nat)))) pi pj pi → HPX nm sc3 H → PTs C R J H (f + 1) a pi (Onm nm sc) b (Onm nm sc3)) : PP (fun m3 z v r => PTZ m0 w0 K T nm Nk (f + 1) lo hi own a cm pi sc m w m3 z (upI v 70 (v.1 70 - 1)) r) (some (m3, ())) (kb_M_rowPattern_194 N S G w3 v3 (I (pi : Nat)) (I (kk : Nat))) := by
  have hkk : K lo ≠ 3 := by rcases hd with h | h <;> omega
  unfold kb_M_rowPattern_194
  refine r_ck (fun _ => r_lt ?_)
  rw [i_nt2 (by omega)]
  have hR4 : PRd w0 T (upA w3 35 (upd (w3.2.2.1 35) pi (I (kk : Nat)))) (hi - 1) pj sc3 := PRS_k hR (fun _ _ _ _ => rfl) (fun k hk => upA_no (by omega)) hR.2.1.1 hR.2.1.2 hR.2.2.2.2.2.1 hR.2.2.2.2.2.2
  have hf4 : RFP (wRW w pi x lo) (upA w3 35 (upd (w3.2.2.1 35) pi (I (kk : Nat)))) pi := RFP_A hf2 (by decide) (Nat.le_refl _)
  have h374 : (upA w3 35 (upd (w3.2.2.1 35) pi (I (kk : Nat)))).2.2.1 37 pi = -1 := by rw [upA_no (by decide)]; exact h37
  generalize upA w3 35 (upd (w3.2.2.1 35) pi (I (kk : Nat))) = w4 at hPT hR4 hf4 h374
  refine need_k (k := cl) (PRS_w c hR4) hR4.2.2.1 (by rcases hd with h | h <;> omega) (by rcases hd with h | h <;> rw [h.2.1, h.2.2.2.2] <;> rfl) (fun k1 => ?_)
  have hk1 : K (hi - 1) ≠ 3 := by rcases hd with h | h <;> omega
  have hl2 : hi - 1 < T := c.1.1.lt hR4.2.1.2 (by rcases hd with h | h <;> omega) (by rcases hd with h | h <;> omega)
  have p1 := PRS_ad hR4 hl2
  rw [show hi - 1 + 1 = hi by omega] at p1
  have n20 : ∀ j, lo ≤ j → j < lo + 1 → K j ≠ 3 := fun j a b => by rw [show j = lo by omega]; exact hkk
  have n21 : ∀ j, hi - 1 ≤ j → j < hi → K j ≠ 3 := fun j a b => by rw [show j = hi - 1 by omega]; exact hk1
  refine pp_end ⟨pi, b, pj, cm3, sc3, W, rfl, ⟨Nat.le_refl _, hpj, h374⟩, hab, hC, PRS_70 p1, ⟨hX, by omega⟩, HDw_tr (by omega) (by omega) (HDw_gap n20) (HDw_tr (by omega) (by omega) hH (HDw_gap n21)), ?_, hf, cl70 ?_, hPT⟩
  · rw [h42, ← wup_tr (p := lo) (q := lo + 1) (p2 := hi) (by omega) (by omega), wup_0 (p := lo) n20, ← wup_tr (p := lo + 1) (q := hi - 1) (p2 := hi) (by omega) (by omega), wup_0 (p := hi - 1) n21]
  · exact RFP_I (RFP_tr (RFP_I (RFP_P RFP_rf (Nat.le_refl _)) (Or.inr (Or.inr rfl))) hf4 (Nat.le_refl _)) (Or.inr (Or.inr rfl))
theorem RWA_0 (hC : PCS m0 nm mS a0 cm sc own) (hR : PRd w0 T (wRW w pi x lo) (lo + 1) (pi + 1) sc) : RWA m0 w0 K T nm Nk f s (lo + 1) own a0 cm pi sc mS (wRW w pi x lo) 0 0 0 mS (wRW w pi x lo) (lo + 1) a0 cm (pi + 1) sc := by
  obtain ⟨e, t, rfl⟩ := PRS_ne hR
  exact ⟨hC, hR, ⟨Nat.le_refl _, Nat.le_refl _, Nat.lt_succ_self _⟩, ⟨NMX_rf, by omega⟩, ⟨fun _ => 0, HDw_gap (fun j a b => by omega), by rw [wup_0 (fun j a b => by omega)]⟩, CFP_rf, RFP_rf, ⟨rfl, rfl, rfl⟩, Or.inl ⟨rfl, rfl, rfl, rfl, (nwP_at (w := upI w 70 (w.1 70 + 1)) (p := pi) (k := x)).2.2.1⟩⟩
theorem wRW_at : (wRW w pi x lo).2.2.1 33 pi = x ∧ (wRW w pi x lo).2.2.1 37 pi = -1 ∧ (wRW w pi x lo).2.2.1 38 pi = 0 := by
  obtain ⟨h1, h2, h3, h4, h5⟩ := nwP_at (w := upI w 70 (w.1 70 + 1)) (p := pi) (k := x)
  exact ⟨h1, h4, h5⟩
theorem agp_1 {R : Nat → Nat → Int} {J : Nat → Int64} {v : Int32} (h : AGP R J (upA w2 35 (upd (w2.2.2.1 35) pi v)) pi pj pi) (hl : pi < last) : AGP R J w2 (pi + 1) pj last := fun q q1 q2 => by
  obtain ⟨g1, g2, g3, g4, g5, g6⟩ := h q (by omega) q2
  refine ⟨?_, ?_, ?_, ?_, g5, fun z => ?_⟩
  · rw [g1]
    show ((upA w2 35 _).2.2.1 33 q).toInt = _
    rw [upA_no (by decide)]; rfl
  · rw [g2]
    show ((upA w2 35 _).2.2.1 35 q).toInt = _
    rw [upA_at, upd_no (by omega)]; rfl
  · rw [g3]
    show ((upA w2 35 _).2.2.1 36 q).toInt = _
    rw [upA_no (by decide)]; rfl
  · rw [g4]
    show ((upA w2 35 _).2.2.1 38 q).toInt = _
    rw [upA_no (by decide)]; rfl
  · rw [g6 (by omega)]
    show ((upA w2 35 _).2.2.1 37 q).toInt = _
    rw [upA_no (by decide)]; rfl
theorem tup_fin {S : SG_M_rowPattern} {G : MS → Int32 → Int32 → Int32 → Int32 → Int32 → Int32 → Int32 → Option (MS × Int32)} (c : CTZ m0 w0 K T nm Nk) (hlo : lo < T) (hk : K lo = 22) (hp5 : pi < 5000) (hlh : lo + 2 ≤ hi) (hkk : kk ≤ 8) (ha : a ≤ 23990) (ra : RWA m0 w0 K T nm Nk f 0 (lo + 1) own (a + 2) cm pi sc (ptc (ptc m a 6) (a + 1) (I (kk : Nat))) (wRW w pi 5 lo) kk first last m2 w2 (hi - 1) b cm2 pj sc2) : PP (fun m3 z v r => PTZ m0 w0 K T nm Nk (f + 1) lo hi own a cm pi sc m w m3 z (upI v 70 (v.1 70 - 1)) r) (some (m2, ())) (kb_M_rowPattern_194 N S G w2 3 (I (pi : Nat)) (I (kk : Nat))) := by
  obtain ⟨r1, r2, r3, r4, ⟨W, r5, r6⟩, r7, r8, r9, r10⟩ := ra
  obtain ⟨x1, x2, x3⟩ := wRW_at (w := w) (pi := pi) (x := 5) (lo := lo)
  refine rowd_fin (x := 5) (v2 := 1) (kd := 22) (cl := 23) (W := W) c hlo hk (Or.inl ⟨rfl, rfl, rfl, rfl, rfl⟩) hp5 hlh r1 r2 r3.2.2 (by omega) r4.1 (by have := r4.2; omega) r5 ?_ ?_ r8 ?_ (fun C R J H gc gr gp gh => ?_)
  · rw [r6, ptc_r (by decide), ptc_r (by decide)]
  · exact CFP_tr (CFP_put (CFP_put CFP_rf (Nat.le_refl _)) (by omega)) r7 (by omega)
  · rw [r9.2.2]; exact x2
  · obtain ⟨g1, g2, g3, -, -, -⟩ := gp pi (Nat.le_refl _) r3.2.2
    have p33 : R 33 pi = 5 := by
      rw [g1]
      show ((upA w2 35 _).2.2.1 33 pi).toInt = 5
      rw [upA_no (by decide), r9.1, x1]; rfl
    have p35 : R 35 pi = ((kk : Nat) : Int) := by
      rw [g2]
      show ((upA w2 35 _).2.2.1 35 pi).toInt = _
      rw [upA_at, upd_at]
      exact I_ti (by omega) (by omega)
    have p36 : R 36 pi = (w2.2.2.1 36 pi).toInt := by
      rw [g3]
      show ((upA w2 35 _).2.2.1 36 pi).toInt = _
      rw [upA_no (by decide)]
    have c0 : C a = 6 := by
      rw [gc a (Nat.le_refl _) (by omega)]
      show (m2.2.2.1 23 a).toInt = 6
      rw [r7.2.2.1 a (by omega), ptc_o (by omega), ptc_n]; rfl
    have c1 : C (a + 1) = R 35 pi := by
      rw [p35, gc (a + 1) (by omega) (by omega)]
      show (m2.2.2.1 23 (a + 1)).toInt = _
      rw [r7.2.2.1 (a + 1) (by omega), ptc_n]
      exact I_ti (by omega) (by omega)
    refine Or.inr (Or.inr (Or.inr (Or.inr (Or.inr (Or.inl ⟨p33, c0, c1, kk, ⟨p35, hkk⟩, ?_⟩)))))
    rcases r10 with ⟨y1, y2, y3, y4, y5⟩ | ⟨y1, y2, y3, y4, y5⟩
    · subst y1
      subst y4
      refine ⟨fun _ => a + 2, fun _ => 0, fun _ => Onm nm sc2, rfl, y2.symm, rfl, rfl, fun z => by omega, fun _ => ?_, fun k hk => by omega⟩
      rw [p36, y5]; rfl
    · obtain ⟨ci, cp, co, h1, h2, h3, h4, h5, h6, h7⟩ := PTL_fn (y5 C R J H (fun k k1 k2 => gc k (by omega) k2) gr (agp_1 gp y3.2.1) gh)
      have pj5 := r2.2.2.2.2.2.2
      have hfi : R 36 pi = ((first : Nat) : Int) := by
        rw [p36, y2]
        exact I_ti (by omega) (by omega)
      refine ⟨ci, cp, co, h1, h2, h3, h4, fun _ => by rw [hfi, h5], fun z => by omega, fun k hk => ⟨?_, (h7 k hk).2.2, fun z => ?_⟩⟩
      · have := (h7 k hk).2.1
        exact this
      · rw [show k = kk - 1 by omega, h6, (gp last (by omega) y3.2.2).2.2.2.2.2 (by omega)]
        show ((upA w2 35 _).2.2.1 37 last).toInt = _
        rw [upA_no (by decide), y4]; rfl
theorem pt_tup (c : CTZ m0 w0 K T nm Nk) (IH : HPT N m0 w0 K T nm Nk f) (hC : PCS m0 nm m a cm sc own) (hR : PRd w0 T w lo pi sc) (hn : n ≤ 8015) (h16 : A m0 16 n = 6) (xa q : Nat) (hT : TUcK m0 (PAcK m0 f) n lo hi xa q r) (hlh : lo + 2 ≤ hi) (htot : tot sc + (hi - lo) ≤ 4000) (ho : decide (v1 = 0) = !own) : PP (PTZ m0 w0 K T nm Nk (f + 1) lo hi own a cm pi sc m w) (jm_Cm_pattern N (jrc_Cm_listPattern N D) m (I (n : Nat))) (km_M_patternAt N (krc_M_rowPattern N d) w v1) := by
  obtain ⟨kk, n1, c1, e18, e19, ⟨hkk, k22, k23⟩, hO, hcn⟩ := hT
  have fr := hC.1
  have k0 : K lo = 22 := kA c hR.2.1.2 k22
  have aa := hC.2.2.1
  unfold jm_Cm_pattern jb_Cm_pattern_0
  refine l_ck (fun hb => ?_)
  rw [i_nt2 (by omega), tre fr (by decide) h16]
  rw [decide_eq_false (show ¬ (I 6 = (1 : Int32)) by decide), br_fq, decide_eq_false (show ¬ (I 6 = (2 : Int32)) by decide), br_fq, decide_eq_false (show ¬ (I 6 = (3 : Int32)) by decide), br_fq, decide_eq_false (show ¬ (I 6 = (4 : Int32)) by decide), br_fq, decide_eq_false (show ¬ (I 6 = (5 : Int32)) by decide), br_fq, decide_eq_true (show (I 6 = (6 : Int32)) by decide), br_tq]
  refine l_put aa.1 aa.2.2 (fun ha => l_ck (fun _ => ?_))
  have c1p := PCS_put (x := 6) hC ha
  rw [show (ptc m a 6).2.2.1 19 n = I (kk : Nat) by rw [ptc_r (by decide)]; exact tre fr (by decide) e19]
  refine l_put c1p.2.2.1.1 c1p.2.2.1.2.2 (fun ha2 => l_ck (fun _ => ?_))
  have c2p := PCS_put (x := I (kk : Nat)) c1p ha2
  rw [show (ptc (ptc m a 6) (a + 1) (I (kk : Nat))).2.2.1 18 n = I (n1 : Nat) by rw [ptc_r (by decide), ptc_r (by decide)]; exact tre fr (by decide) e18]
  refine rr_start (x := 5) (v2 := 1) (v3 := 3) c hR k0 (Or.inl ⟨rfl, rfl, rfl, rfl, rfl⟩) (fun d2 hl h5 hS => ?_)
  have ra0 := RWA_0 (K := K) (Nk := Nk) (f := f) (s := 0) c2p hS
  rcases hO with ⟨y1, y2, y3, y4, y5⟩ | ⟨y1, hrw⟩
  · 
    subst y1
    subst y2
    have k1 : K (lo + 1) = 23 := by rw [y3]; exact kA c (by rw [← y3]; exact hS.2.1.2) k23
    rw [if_pos k1]
    cases N with
    | zero => exact pp_nl
    | succ N =>
      show PP _ (jb_Cm_pattern_268 (N + 1) (jrc_Cm_listPattern (N + 1) D) (jg_Cm_pattern (N + 1) (jrc_Cm_listPattern (N + 1) D) N) _ (I ((0 : Nat) : Int))) _
      unfold jb_Cm_pattern_268 jb_Cm_pattern_298
      rw [decide_eq_true (show I ((0 : Nat) : Int) = (0 : Int32) from rfl), br_tq]
      have e2 : hi = lo + 2 := by omega
      subst e2
      exact tup_fin (hi := lo + 2) c hl k0 h5 hlh hkk aa.2.2 ra0
  · have hdr := (RW_hdK (PA_bdK _) hrw).1
    unfold HDc at hdr
    have k1 : K (lo + 1) ≠ 23 := Kne c hS.2.1.2 (rw_k1 hrw).2.1
    rw [if_neg k1]
    exact rowd_lp (CL := jg_Cm_pattern N (jrc_Cm_listPattern N D)) (D := D) (s := 0) (xb := c1) (r := r) c IH (fun _ _ => rfl) (fun M m n h1 h2 => by
        show jb_Cm_pattern_268 N (jrc_Cm_listPattern N D) (jg_Cm_pattern N (jrc_Cm_listPattern N D) M) m (I ((n : Nat) : Int)) = _
        unfold jb_Cm_pattern_268 stp
        rw [decide_eq_false (nat_n0 h1 (by omega)), br_fq, if_pos rfl, i_nt2 (by omega)]) (by omega) (by omega) (by omega) (by omega) ho (fun h => by have := kA (k := 23) c h k23; omega) hkk (fun M1 M2 m2 w2 b cm2 pj sc2 f2 l2 ra2 => by
        cases M1 with
        | zero => exact pp_nl
        | succ M1 =>
          show PP _ (jb_Cm_pattern_268 N (jrc_Cm_listPattern N D) (jg_Cm_pattern N (jrc_Cm_listPattern N D) M1) m2 (I 0)) _
          unfold jb_Cm_pattern_268 jb_Cm_pattern_298 kb_M_rowPattern_151
          rw [decide_eq_true (show I 0 = (0 : Int32) from rfl), br_tq, show decide ((1 : Int32) = 0) = false from rfl, br_fq]
          exact tup_fin c hl k0 h5 hlh hkk aa.2.2 ra2) kk n1 (lo + 1) xa q N N 0 0 0 _ _ (a + 2) cm (pi + 1) sc (-1) hrw ra0 (Or.inl ⟨rfl, rfl⟩) (by omega)
end
end
section
set_option maxRecDepth 100000
section
variable {m0 w0 m w mS m2 w2 m3 w3 : MS} {K nm Nk W : Nat → Nat} {T N n lo hi mid f s a a0 b cm cm2 cm3 pi pj kk first last d D xb r kd cl : Nat} {sc sc2 sc3 : SCT} {own : Bool} {x v1 v2 v3 : Int32}
theorem lst_fin {S : SG_M_rowPattern} {G : MS → Int32 → Int32 → Int32 → Int32 → Int32 → Int32 → Int32 → Option (MS × Int32)} (c : CTZ m0 w0 K T nm Nk) (hlo : lo < T) (hk : K lo = 24) (hp5 : pi < 5000) (hlh : lo + 2 ≤ hi) (hkk : kk ≤ 8) (ra : RWA m0 w0 K T nm Nk f 1 (lo + 1) own a cm pi sc m (wRW w pi 6 lo) kk first last m2 w2 (hi - 1) b cm2 pj sc2) (hC : PCS m0 nm m3 (b + 3) cm2 sc2 own) (hf : CFP m2 m3 b (sc2.length - 1)) (h42 : m3.2.2.1 42 = m2.2.2.1 42) (hw : A m3 23 b = 1 ∧ A m3 23 (b + 1) = 6 ∧ A m3 23 (b + 2) = 0) : PP (fun m3 z v r => PTZ m0 w0 K T nm Nk (f + 1) lo hi own a cm pi sc m w m3 z (upI v 70 (v.1 70 - 1)) r) (some (m3, ())) (kb_M_rowPattern_194 N S G w2 5 (I (pi : Nat)) (I (kk : Nat))) := by
  obtain ⟨r1, r2, r3, r4, ⟨W, r5, r6⟩, r7, r8, r9, r10⟩ := ra
  obtain ⟨x1, x2, x3⟩ := wRW_at (w := w) (pi := pi) (x := 6) (lo := lo)
  have sl : sc2.length = sc.length := NMX_len r4.1
  rw [sl] at hf
  refine rowd_fin (x := 6) (v2 := 0) (kd := 24) (cl := 25) (W := W) c hlo hk (Or.inr ⟨rfl, rfl, rfl, rfl, rfl⟩) hp5 hlh hC r2 r3.2.2 (by omega) r4.1 (by have := r4.2; omega) r5 ?_ ?_ r8 ?_ (fun C R J H gc gr gp gh => ?_)
  · rw [h42, r6]
  · exact CFP_tr r7 hf (by omega)
  · rw [r9.2.2]; exact x2
  · obtain ⟨g1, g2, g3, g4, -, -⟩ := gp pi (Nat.le_refl _) r3.2.2
    have p33 : R 33 pi = 6 := by
      rw [g1]
      show ((upA w2 35 _).2.2.1 33 pi).toInt = 6
      rw [upA_no (by decide), r9.1, x1]; rfl
    have p35 : R 35 pi = ((kk : Nat) : Int) := by
      rw [g2]
      show ((upA w2 35 _).2.2.1 35 pi).toInt = _
      rw [upA_at, upd_at]
      exact I_ti (by omega) (by omega)
    have p36 : R 36 pi = (w2.2.2.1 36 pi).toInt := by
      rw [g3]
      show ((upA w2 35 _).2.2.1 36 pi).toInt = _
      rw [upA_no (by decide)]
    have p38 : R 38 pi = 0 := by
      rw [g4]
      show ((upA w2 35 _).2.2.1 38 pi).toInt = _
      rw [upA_no (by decide), r9.2.1, x3]; rfl
    have cb0 : C b = 1 := (gc b (by omega) (by omega)).trans hw.1
    have cb1 : C (b + 1) = 6 := (gc (b + 1) (by omega) (by omega)).trans hw.2.1
    have cb2 : C (b + 2) = 0 := (gc (b + 2) (by omega) (by omega)).trans hw.2.2
    refine Or.inr (Or.inr (Or.inr (Or.inr (Or.inr (Or.inr ⟨p33, kk, ⟨p35, hkk⟩, ?_⟩)))))
    rcases r10 with ⟨y1, y2, y3, y4, y5⟩ | ⟨y1, y2, y3, y4, y5⟩
    · subst y1
      subst y4
      subst y2
      exact ⟨fun _ => b, fun _ => 0, fun _ => Onm nm sc2, rfl, rfl, fun z => by omega, fun k hk => by omega, Or.inl ⟨p38, cb0, cb1, cb2, rfl, rfl⟩⟩
    · obtain ⟨ci, cp, co, h1, h2, h3, h4, h5, h6, h7⟩ := PTL_fn (y5 C R J H (AGC_sub (p := b) (b := b + 3) gc (fun j hj => hf.2.2.1 j hj) (by omega)) gr (agp_1 gp y3.2.1) gh)
      have pj5 := r2.2.2.2.2.2.2
      have hfi : R 36 pi = ((first : Nat) : Int) := by
        rw [p36, y2]
        exact I_ti (by omega) (by omega)
      exact ⟨ci, cp, co, h1, h3, fun _ => by rw [hfi, h5], fun k hk => ⟨(h7 k hk).1 rfl, (h7 k hk).2.1, (h7 k hk).2.2⟩, Or.inl ⟨p38, by rw [h2]; exact cb0, by rw [h2]; exact cb1, by rw [h2]; exact cb2, by rw [h2], h4.symm⟩⟩
theorem lst_bar {S : SG_M_rowPattern} {G : MS → Int32 → Int32 → Int32 → Int32 → Int32 → Int32 → Int32 → Option (MS × Int32)} (c : CTZ m0 w0 K T nm Nk) (hlo : lo < T) (hk : K lo = 24) (hp5 : pi < 5000) (hlh : lo + 2 ≤ hi) (hkk : kk ≤ 8) (hk1 : 1 ≤ kk) (hmid : lo + 1 ≤ mid ∧ mid + 1 ≤ hi - 1) (k29 : K mid = 29) (ra : RWA m0 w0 K T nm Nk f 1 (lo + 1) own a cm pi sc m (wRW w pi 6 lo) kk first last m2 w2 mid b cm2 pj sc2) {y : Int32} {z : Unit} (hz : PTZ m0 w0 K T nm Nk f (mid + 1) (hi - 1) own b cm2 pj sc2 m2 (adv w2 mid) m3 z w3 y) : PP (fun m3 z v r => PTZ m0 w0 K T nm Nk (f + 1) lo hi own a cm pi sc m w m3 z (upI v 70 (v.1 70 - 1)) r) (some (m3, ())) (br (decide (I (last : Nat) = (-1 : Int32))) (kb_M_rowPattern_186 N S G w3 5 (I (pi : Nat)) (I (kk : Nat))) (ck (inb (I (last : Nat)) (ln 37)) (lt (upA w3 37 (upd (w3.2.2.1 37) (I (last : Nat)).toNatClampNeg y)) (fun w6 => kb_M_rowPattern_186 N S G w6 5 (I (pi : Nat)) (I (kk : Nat)))))) := by
  obtain ⟨r1, r2, r3, r4, ⟨W, r5, r6⟩, r7, r8, r9, r10⟩ := ra
  obtain ⟨x1, x2, x3⟩ := wRW_at (w := w) (pi := pi) (x := 6) (lo := lo)
  have sl : sc2.length = sc.length := NMX_len r4.1
  obtain ⟨pn, b3, pj3, cm3, sc3, W3, e1, e2, e3, e4, e5, e6, e7, e8, e9, e10, e11⟩ := hz
  rw [sl] at e9
  rcases r10 with ⟨y1, -⟩ | ⟨y1, y2, y3, y4, y5⟩
  · omega
  · have pj5 := r2.2.2.2.2.2.2
    have pj53 := e5.2.2.2.2.2.2
    have hl9 : mid < T := c.1.1.lt r2.2.1.2 (by omega) (by omega)
    rw [decide_eq_false (nat_ne2 (by omega)), br_fq]
    refine r_ck (fun _ => r_lt ?_)
    rw [i_nt2 (by omega)]
    unfold kb_M_rowPattern_186
    refine r_ck (fun _ => r_lt ?_)
    rw [i_nt2 (by omega), show vp_nar .boolean 1 = 1 from rfl]
    subst e1
    have old : ∀ k q, q < pj → k < 59 → w3.2.2.1 k q = w2.2.2.1 k q := fun k q hq hk => e10.2.2.1 k q hq hk
    have q5 : PRd w0 T (upA w3 37 (upd (w3.2.2.1 37) last (I (pn : Nat)))) (hi - 1) pj3 sc3 := PRS_k e5 (fun _ _ _ _ => rfl) (fun k hk => upA_no (by omega)) e5.2.1.1 e5.2.1.2 e5.2.2.2.2.2.1 e5.2.2.2.2.2.2
    have q8 : RFP (wRW w pi 6 lo) (upA w3 37 (upd (w3.2.2.1 37) last (I (pn : Nat)))) pi := RFP_A (RFP_tr r8 (RFP_tr (RFP_I RFP_rf (Or.inr (Or.inr rfl))) e10 (Nat.le_refl _)) (by omega)) (by decide) (by omega)
    have o37 : ∀ k q, k ≠ 37 → (upA w3 37 (upd (w3.2.2.1 37) last (I (pn : Nat)))).2.2.1 k q = w3.2.2.1 k q := fun k q h => by rw [upA_no h]
    have n37 : ∀ q, q ≠ last → (upA w3 37 (upd (w3.2.2.1 37) last (I (pn : Nat)))).2.2.1 37 q = w3.2.2.1 37 q := fun q h => by rw [upA_at, upd_no h]
    have l37 : (upA w3 37 (upd (w3.2.2.1 37) last (I (pn : Nat)))).2.2.1 37 last = I (pn : Nat) := by rw [upA_at, upd_at]
    have j37 : (upA w3 37 (upd (w3.2.2.1 37) last (I (pn : Nat)))).2.2.2 = w3.2.2.2 := rfl
    generalize upA w3 37 (upd (w3.2.2.1 37) last (I (pn : Nat))) = w4 at q5 q8 o37 n37 l37 j37
    have s5 : PRd w0 T (upA w4 38 (upd (w4.2.2.1 38) pi 1)) (hi - 1) pj3 sc3 := PRS_k q5 (fun _ _ _ _ => rfl) (fun k hk => upA_no (by omega)) q5.2.1.1 q5.2.1.2 q5.2.2.2.2.2.1 q5.2.2.2.2.2.2
    have s8 : RFP (wRW w pi 6 lo) (upA w4 38 (upd (w4.2.2.1 38) pi 1)) pi := RFP_A q8 (by decide) (Nat.le_refl _)
    have o38 : ∀ k q, k ≠ 38 → (upA w4 38 (upd (w4.2.2.1 38) pi 1)).2.2.1 k q = w4.2.2.1 k q := fun k q h => by rw [upA_no h]
    have n38 : ∀ q, q ≠ pi → (upA w4 38 (upd (w4.2.2.1 38) pi 1)).2.2.1 38 q = w4.2.2.1 38 q := fun q h => by rw [upA_at, upd_no h]
    have l38 : (upA w4 38 (upd (w4.2.2.1 38) pi 1)).2.2.1 38 pi = 1 := by rw [upA_at, upd_at]
    have j38 : (upA w4 38 (upd (w4.2.2.1 38) pi 1)).2.2.2 = w4.2.2.2 := rfl
    generalize upA w4 38 (upd (w4.2.2.1 38) pi 1) = w5 at s5 s8 o38 n38 l38 j38
    have gap : ∀ j, mid ≤ j → j < mid + 1 → K j ≠ 3 := fun j a b => by rw [show j = mid by omega]; omega
    have hHD : HDw own nm Nk K (mrw (mid + 1) W W3) (lo + 1) (hi - 1) sc sc3 := mrw_tr (by omega) (by omega) (HDw_tr hmid.1 (by omega) r5 (HDw_gap gap)) e7
    refine rowd_fin (x := 6) (v2 := 0) (kd := 24) (cl := 25) (W := mrw (mid + 1) W W3) c hlo hk (Or.inr ⟨rfl, rfl, rfl, rfl, rfl⟩) hp5 hlh e4 s5 (by omega) (by omega) (NMX_tr r4.1 e6.1) (by have := r4.2; have := e6.2; omega) hHD ?_ ?_ s8 ?_ (fun C R J H gc gr gp gh => ?_)
    · rw [e8, r6, ← wup_ex1 (K := K) (W := W) (g := m.2.2.1 42) hmid.1 (by omega), mrw_wup (by omega) (by omega)]
    · exact CFP_tr r7 e9 (by omega)
    · rw [o38 37 _ (by decide), n37 pi (by omega), old 37 pi (by omega) (by decide), r9.2.2]; exact x2
    · 
      have fin : ∀ q, pi ≤ q → q < pj3 → (R 33 q = A w3 33 q ∧ R 36 q = A w3 36 q) ∧ (q ≠ pi → R 35 q = A w3 35 q ∧ R 38 q = A w3 38 q) ∧ J q = w3.2.2.2 34 q ∧ (q ≠ pi → q ≠ last → R 37 q = A w3 37 q) ∧ (q = last → R 37 q = ((pn : Nat) : Int)) := fun q q1 q2 => by
        obtain ⟨g1, g2, g3, g4, g5, g6⟩ := gp q q1 q2
        refine ⟨⟨?_, ?_⟩, fun z => ⟨?_, ?_⟩, ?_, fun z z2 => ?_, fun z => ?_⟩
        · rw [g1]
          show ((upA w5 35 _).2.2.1 33 q).toInt = _
          rw [upA_no (by decide), o38 33 q (by decide), o37 33 q (by decide)]; rfl
        · rw [g3]
          show ((upA w5 35 _).2.2.1 36 q).toInt = _
          rw [upA_no (by decide), o38 36 q (by decide), o37 36 q (by decide)]; rfl
        · rw [g2]
          show ((upA w5 35 _).2.2.1 35 q).toInt = _
          rw [upA_at, upd_no z, o38 35 q (by decide), o37 35 q (by decide)]; rfl
        · rw [g4]
          show ((upA w5 35 _).2.2.1 38 q).toInt = _
          rw [upA_no (by decide), n38 q z, o37 38 q (by decide)]; rfl
        · rw [g5]
          show w5.2.2.2 34 q = _
          rw [j38, j37]
        · rw [g6 z]
          show ((upA w5 35 _).2.2.1 37 q).toInt = _
          rw [upA_no (by decide), o38 37 q (by decide), n37 q z2]; rfl
        · rw [g6 (by omega)]
          show ((upA w5 35 _).2.2.1 37 q).toInt = _
          rw [upA_no (by decide), o38 37 q (by decide), z, l37]
          exact I_ti (by omega) (by omega)
      obtain ⟨-, g2, -, g4, -, -⟩ := gp pi (Nat.le_refl _) (by omega)
      obtain ⟨⟨p33, p36⟩, -⟩ := fin pi (Nat.le_refl _) (by omega)
      have ow : ∀ k q, q < pj → k < 59 → A w3 k q = A w2 k q := fun k q hq hk => by
        show (w3.2.2.1 k q).toInt = _
        rw [old k q hq hk]; rfl
      have p33 : R 33 pi = 6 := by
        rw [p33, ow 33 pi (by omega) (by decide)]
        show (w2.2.2.1 33 pi).toInt = 6
        rw [r9.1, x1]; rfl
      have p36 : R 36 pi = ((first : Nat) : Int) := by
        rw [p36, ow 36 pi (by omega) (by decide)]
        show (w2.2.2.1 36 pi).toInt = _
        rw [y2]
        exact I_ti (by omega) (by omega)
      have p35 : R 35 pi = ((kk : Nat) : Int) := by
        rw [g2]
        show ((upA w5 35 _).2.2.1 35 pi).toInt = _
        rw [upA_at, upd_at]
        exact I_ti (by omega) (by omega)
      have p38 : R 38 pi = 1 := by
        rw [g4]
        show ((upA w5 35 _).2.2.1 38 pi).toInt = _
        rw [upA_no (by decide), l38]; rfl
      have agL : AGP R J w2 (pi + 1) pj last := fun q q1 q2 => by
        obtain ⟨⟨f1, f2⟩, f3, f4, f5, -⟩ := fin q (by omega) (by omega)
        refine ⟨f1.trans (ow 33 q q2 (by decide)), (f3 (by omega)).1.trans (ow 35 q q2 (by decide)), f2.trans (ow 36 q q2 (by decide)), (f3 (by omega)).2.trans (ow 38 q q2 (by decide)), f4.trans (e10.2.2.2 34 q (Or.inl q2)), fun z => (f5 (by omega) z).trans (ow 37 q q2 (by decide))⟩
      have agT : AGP R J w3 pj pj3 pn := fun q q1 q2 => by
        obtain ⟨⟨f1, f2⟩, f3, f4, f5, -⟩ := fin q (by omega) (by omega)
        exact ⟨f1, (f3 (by omega)).1, f2, (f3 (by omega)).2, f4, fun z => f5 (by omega) (by omega)⟩
      obtain ⟨ci, cp, co, h1, h2, h3, h4, h5, h6, h7⟩ := PTL_fn (y5 C R J H (AGC_sub (p := b) (b := b3) gc (fun j hj => e9.2.2.1 j hj) (by omega)) gr agL (HPX_mo e7.1 gh))
      have tl := e11 C R J H (fun k k1 k2 => gc k (by omega) k2) gr agT gh
      refine Or.inr (Or.inr (Or.inr (Or.inr (Or.inr (Or.inr ⟨p33, kk, ⟨p35, hkk⟩, ci, fun q => if q = kk then pn else cp q, co, h1, h3, fun _ => ?_, fun k hk => ⟨(h7 k hk).1 rfl, ?_, fun z => ?_⟩, Or.inr ⟨p38, by omega, ?_, ?_⟩⟩)))))
      · show R 36 pi = ((if 0 = kk then pn else cp 0 : Nat) : Int)
        rw [if_neg (by omega), p36, h5]
      · show PTs C R J H f (ci k + 1) (if k = kk then pn else cp k) (co k) (ci (k + 1)) (co (k + 1))
        rw [if_neg (by omega)]
        exact (h7 k hk).2.1
      · show R 37 (if k = kk then pn else cp k) = ((if k + 1 = kk then pn else cp (k + 1) : Nat) : Int)
        rw [if_neg (by omega), if_neg (by omega)]
        exact (h7 k hk).2.2 z
      · show R 37 (if kk - 1 = kk then pn else cp (kk - 1)) = ((if kk = kk then pn else cp kk : Nat) : Int)
        rw [if_neg (by omega), if_pos rfl, h6]
        exact (fin last (by omega) (by omega)).2.2.2.2 rfl
      · show PTs C R J H f (ci kk) (if kk = kk then pn else cp kk) (co kk) b3 (Onm nm sc3)
        rw [if_pos rfl, h2, h4]
        exact tl
theorem pt_lst (c : CTZ m0 w0 K T nm Nk) (IH : HPT N m0 w0 K T nm Nk f) (hC : PCS m0 nm m a cm sc own) (hR : PRd w0 T w lo pi sc) (hn : n ≤ 8015) (h16 : A m0 16 n = 7) (xa q : Nat) (hT : TLcK m0 (PAcK m0 f) n lo hi xa q r) (htot : tot sc + (hi - lo) ≤ 4000) (ho : decide (v1 = 0) = !own) : PP (PTZ m0 w0 K T nm Nk (f + 1) lo hi own a cm pi sc m w) (jm_Cm_pattern N (jrc_Cm_listPattern N D) m (I (n : Nat))) (km_M_patternAt N (krc_M_rowPattern N d) w v1) := by
  obtain ⟨kk, n1, mid, c1, s1, e18, e19, ⟨hkk, k24, k25⟩, hO, hB⟩ := hT
  have fr := hC.1
  have k0 : K lo = 24 := kA c hR.2.1.2 k24
  have aa := hC.2.2.1
  unfold jm_Cm_pattern jb_Cm_pattern_0
  refine l_ck (fun hb => ?_)
  rw [i_nt2 (by omega), tre fr (by decide) h16]
  rw [decide_eq_false (show ¬ (I 7 = (1 : Int32)) by decide), br_fq, decide_eq_false (show ¬ (I 7 = (2 : Int32)) by decide), br_fq, decide_eq_false (show ¬ (I 7 = (3 : Int32)) by decide), br_fq, decide_eq_false (show ¬ (I 7 = (4 : Int32)) by decide), br_fq, decide_eq_false (show ¬ (I 7 = (5 : Int32)) by decide), br_fq, decide_eq_false (show ¬ (I 7 = (6 : Int32)) by decide), br_fq, decide_eq_true (show (I 7 = (7 : Int32)) by decide), br_tq]
  refine rr_start (x := 6) (v2 := 0) (v3 := 5) c hR k0 (Or.inr ⟨rfl, rfl, rfl, rfl, rfl⟩) (fun d2 hl h5 hS => ?_)
  refine pp_lb (pp_mo (R := fun m3 z v r => PTZ m0 w0 K T nm Nk (f + 1) lo hi own a cm pi sc m w m3 z (upI v 70 (v.1 70 - 1)) r) ?_ (fun m3 z v r h => pk_some h))
  cases D with
  | zero => exact pp_nl
  | succ D =>
    show PP _ (jm_Cm_listPattern N (jrc_Cm_listPattern N D) m (I (n : Nat))) _
    unfold jm_Cm_listPattern jb_Cm_listPattern_0
    refine l_ck (fun _ => ?_)
    rw [i_nt2 (by omega), tre fr (by decide) e18]
    have ra0 := RWA_0 (K := K) (Nk := Nk) (f := f) (s := 1) hC hS
    have endc : ∀ (M1 : Nat) (m2 w2 : MS) (b cm2 pj : Nat) (sc2 : SCT) (f2 l2 : Nat) (G : MS → Int32 → Int32 → Int32 → Int32 → Int32 → Int32 → Int32 → Option (MS × Int32)), A m0 20 n = 0 → lo + 2 ≤ hi → RWA m0 w0 K T nm Nk f 1 (lo + 1) own a cm pi sc m (wRW w pi 6 lo) kk f2 l2 m2 w2 (hi - 1) b cm2 pj sc2 → PP (fun m3 z v r => PTZ m0 w0 K T nm Nk (f + 1) lo hi own a cm pi sc m w m3 z (upI v 70 (v.1 70 - 1)) r) (jg_Cm_listPattern N (jrc_Cm_listPattern N D) M1 m2 (I (n : Nat)) (I 0)) (kb_M_rowPattern_194 N (krc_M_rowPattern N d2) G w2 5 (I (pi : Nat)) (I (kk : Nat))) := fun M1 m2 w2 b cm2 pj sc2 f2 l2 G h20 hlh ra => by
      cases M1 with
      | zero => exact pp_nl
      | succ M1 =>
        show PP _ (jb_Cm_listPattern_10 N (jrc_Cm_listPattern N D) (jg_Cm_listPattern N (jrc_Cm_listPattern N D) M1) m2 (I (n : Nat)) (I 0)) _
        unfold jb_Cm_listPattern_10 jb_Cm_listPattern_84
        rw [decide_eq_true (show I 0 = (0 : Int32) from rfl), br_tq]
        refine l_ck (fun _ => ?_)
        rw [i_nt2 (by omega), tre ra.1.1 (by decide) h20, decide_eq_true (show I 0 = (0 : Int32) from rfl), br_tq]
        refine l_put ra.1.2.2.1.1 ra.1.2.2.1.2.2 (fun ha => ?_)
        have cp := PCS_put (x := 1) ra.1 ha
        refine l_two cp (fun m3 h1 h2 h3 h4 => ?_)
        refine lst_fin c hl k0 h5 hlh hkk ra h1 (CFP_tr (CFP_put CFP_rf (Nat.le_refl _)) h2 (by omega)) (by rw [h3, ptc_r (by decide)]) ⟨?_, ?_, ?_⟩
        · show (m3.2.2.1 23 b).toInt = 1
          rw [h2.2.2.1 b (by omega), ptc_n]; rfl
        · rw [h4.1]; rfl
        · rw [h4.2]; rfl
    rcases hO with ⟨y1, y2, y3, y4, y5⟩ | ⟨y1, hrw⟩
    · 
      rcases hB with ⟨h20, hm, -, -⟩ | ⟨⟨h1, -⟩, -⟩
      · subst y1
        subst y2
        have e2 : hi = lo + 2 := by omega
        subst e2
        have k1 : K (lo + 1) = 25 := kA c hS.2.1.2 k25
        rw [if_pos k1]
        exact endc N m (wRW w pi 6 lo) a cm (pi + 1) sc 0 0 _ h20 (by omega) ra0
      · omega
    · have hdr := (RW_hdK (PA_bdK _) hrw).1
      unfold HDc at hdr
      have k1 : K (lo + 1) ≠ 25 := Kne c hS.2.1.2 (rw_k1 hrw).2.2.1
      rw [if_neg k1]
      have hmh : mid + 1 ≤ hi := by
        rcases hB with ⟨-, hm, -, -⟩ | ⟨-, x, c2, -, hE, -⟩
        · omega
        · have := PA_bdK _ _ _ _ _ _ _ _ hE
          unfold HDc at this
          omega
      have hcn : c1 ≤ 8015 := by
        rcases hB with ⟨-, -, -, hm⟩ | ⟨-, x, c2, -, hE, hm⟩
        · omega
        · have := PA_bdK _ _ _ _ _ _ _ _ hE
          unfold HDc at this
          omega
      have htt : tot sc + (mid - (lo + 1)) ≤ 4000 := by
        clear hB
        omega
      refine rowd_lp (CL := fun M m y => jg_Cm_listPattern N (jrc_Cm_listPattern N D) M m (I (n : Nat)) y) (D := D) (s := 1) (xb := c1) (r := s1) (hi := mid) c IH (fun _ _ => rfl) (fun M m n2 h1 h2 => by
          show jb_Cm_listPattern_10 N (jrc_Cm_listPattern N D) (jg_Cm_listPattern N (jrc_Cm_listPattern N D) M) m (I ((n : Nat) : Int)) (I ((n2 : Nat) : Int)) = _
          unfold jb_Cm_listPattern_10 stp
          rw [decide_eq_false (nat_n0 h1 (by omega)), br_fq, if_neg (by omega), i_nt2 (p := n2) (by omega)]) (by omega) (by omega) hcn htt ho (fun h => ?_) hkk (fun M1 M2 m2 w2 b cm2 pj sc2 f2 l2 ra2 => ?_) kk n1 (lo + 1) xa q N N 0 0 0 _ _ a cm (pi + 1) sc (-1) hrw ra0 (Or.inl ⟨rfl, rfl⟩) (by omega)
      · rcases hB with ⟨-, hm, -, -⟩ | ⟨⟨-, h29⟩, -⟩
        · have := kA (k := 25) (p := mid) c h (by rw [show mid = hi - 1 by omega]; exact k25)
          omega
        · have := kA (k := 29) (p := mid) c h h29
          omega
      · have hw2 := PRS_w c ra2.2.1
        unfold kb_M_rowPattern_151
        rw [show decide ((0 : Int32) = 0) = true from rfl, br_tq, tkS_e (k := 29) (s := 9) hw2 ra2.2.1.2.2.1 (by decide) rfl]
        rcases hB with ⟨h20, hm, -, -⟩ | ⟨⟨-, h29⟩, x, c2, h20, hE, hc2⟩
        · have := kA (k := 25) (p := mid) c ra2.2.1.2.1.2 (by rw [show mid = hi - 1 by omega]; exact k25)
          rw [if_neg (by omega), bnd_s, show decide ((0 : Int32) = 0) = true from rfl, br_tq]
          rw [show mid = hi - 1 by omega] at ra2
          exact endc M1 m2 w2 b cm2 pj sc2 f2 l2 _ h20 (by omega) ra2
        · have k29 := kA (k := 29) (p := mid) c ra2.2.1.2.1.2 h29
          have hl2 : mid < T := c.1.1.lt ra2.2.1.2.1.2 (by omega) (by omega)
          have hdx := PA_bdK _ _ _ _ _ _ _ _ hE
          unfold HDc at hdx
          rw [if_pos k29, bnd_s, show decide ((1 : Int32) = 0) = false from rfl, br_fq]
          cases M1 with
          | zero => exact pp_nl
          | succ M1 =>
            show PP _ (jb_Cm_listPattern_10 N (jrc_Cm_listPattern N D) (jg_Cm_listPattern N (jrc_Cm_listPattern N D) M1) m2 (I (n : Nat)) (I 0)) _
            unfold jb_Cm_listPattern_10 jb_Cm_listPattern_84
            rw [decide_eq_true (show I 0 = (0 : Int32) from rfl), br_tq]
            refine l_ck (fun _ => ?_)
            rw [i_nt2 (p := n) (by omega), tre ra2.1.1 (by decide) h20, decide_eq_false (nat_n0 (by omega) (by omega)), br_fq]
            refine l_ck (fun _ => ?_)
            have t2 := ra2.2.2.2.1.2
            refine pp_bb (pp_mo (IH D d2 x (mid + 1) (hi - 1) c1 c2 s1 r m2 (adv w2 mid) b cm2 pj sc2 own v1 hE (by omega) ra2.1 (PRS_ad ra2.2.1 hl2) (by omega) ho) (fun m3 z w3 y hz => ?_))
            exact lst_bar c hl k0 h5 (by omega) hkk y1 ⟨by omega, by omega⟩ k29 ra2 hz
theorem pt_all (c : CTZ m0 w0 K T nm Nk) (cv : CTV m0 w0 K T) : ∀ f, HPT N m0 w0 K T nm Nk f
  | 0 => fun D d n lo hi xa xb q r m w a cm pi sc own v1 h => h.elim
  | f + 1 => fun D d n lo hi xa xb q r m w a cm pi sc own v1 h hxb hC hR ht ho => by
    cases D with
    | zero => exact pp_nl
    | succ D =>
      cases d with
      | zero => exact pp_nr
      | succ d =>
        have hd := PA_bdK _ _ _ _ _ _ _ _ h
        unfold HDc at hd
        show PP _ (jm_Cm_pattern N (jrc_Cm_listPattern N D) m (I (n : Nat))) (km_M_patternAt N (krc_M_rowPattern N d) w v1)
        obtain ⟨-, -, -, h⟩ := h
        rcases h with ⟨h1, h2⟩ | ⟨h16, n1, h18, hn1, h1, h2, h3, h4⟩ | ⟨h16, n1, c1, h18, pa, hc1, h2, h3⟩ | ⟨h16, h⟩ | ⟨h16, h⟩
        · subst h2
          exact pt_leaf c cv hC hR (by omega) h1 (by omega) ho
        · subst h3
          exact ptd_neg c cv hC hR (by omega) (by omega) h16 h18 h1 h2 h4
        · have hdp := PA_bdK _ _ _ _ _ _ _ _ pa
          unfold HDc at hdp
          exact ptd_grp c (pt_all c cv f) hC hR (by omega) h16 h18 pa (by omega) h2 h3 (by omega) ht ho
        · have hlh : lo + 2 ≤ hi := by
            obtain ⟨kk, n1, c1, e18, e19, ⟨hkk, k22, k23⟩, hO, hcn⟩ := h
            by_cases z : hi = lo + 1
            · rw [z, show lo + 1 - 1 = lo by omega] at k23
              omega
            · omega
          exact pt_tup c (pt_all c cv f) hC hR (by omega) h16 xa q h hlh ht ho
        · exact pt_lst c (pt_all c cv f) hC hR (by omega) h16 xa q h ht ho
end
end
section
set_option maxRecDepth 100000
def grp (k : Nat) : Nat := if 23 ≤ k ∧ k ≤ 31 then 32 else if 33 ≤ k ∧ k ≤ 38 then 39 else if 40 ≤ k ∧ k ≤ 45 then 46 else if 53 ≤ k ∧ k ≤ 55 then 56 else if k = 57 then 58 else if k = 74 then 75 else if k = 76 then 77 else if 79 ≤ k ∧ k ≤ 82 then 83 else 0
def MKs : List Nat := [32, 39, 46, 56, 58, 75, 77, 83]
def QMK (w : MS) (Q : Nat → Nat) : Prop := ∀ k, k ∈ MKs → w.1 k = I (Q k : Nat) ∧ Q k ≤ 24000
def QRR (Q : Nat → Nat) (w v : MS) : Prop := (∀ k, grp k = 0 → ¬ (59 ≤ k ∧ k ≤ 64) → k ≠ 78 → v.2.2.1 k = w.2.2.1 k) ∧ (∀ k q, grp k ≠ 0 → q < Q (grp k) → v.2.2.1 k q = w.2.2.1 k q) ∧ ∀ k q, k ≠ 34 ∨ q < Q 39 → v.2.2.2 k q = w.2.2.2 k q
def QLE (Q Q2 : Nat → Nat) : Prop := ∀ k, k ∈ MKs → Q k ≤ Q2 k
def qst (Q : Nat → Nat) (k n : Nat) : Nat → Nat := fun j => if j = k then n else Q j
section
variable {α β : Type} {N i p q g n : Nat} {Q Q2 Q3 : Nat → Nat} {w v u : MS} {x y k t : Int32} {R : MS → α → MS → β → Prop} {A' : Option (MS × α)} {f : MS → Int32 → Option (MS × β)}
theorem grp_m {k : Nat} (h : grp k ≠ 0) : grp k ∈ MKs := by
  unfold grp at h ⊢
  by_cases h1 : 23 ≤ k ∧ k ≤ 31
  · rw [if_pos h1]; decide
  rw [if_neg h1] at h ⊢
  by_cases h2 : 33 ≤ k ∧ k ≤ 38
  · rw [if_pos h2]; decide
  rw [if_neg h2] at h ⊢
  by_cases h3 : 40 ≤ k ∧ k ≤ 45
  · rw [if_pos h3]; decide
  rw [if_neg h3] at h ⊢
  by_cases h4 : 53 ≤ k ∧ k ≤ 55
  · rw [if_pos h4]; decide
  rw [if_neg h4] at h ⊢
  by_cases h5 : k = 57
  · rw [if_pos h5]; decide
  rw [if_neg h5] at h ⊢
  by_cases h6 : k = 74
  · rw [if_pos h6]; decide
  rw [if_neg h6] at h ⊢
  by_cases h7 : k = 76
  · rw [if_pos h7]; decide
  rw [if_neg h7] at h ⊢
  by_cases h8 : 79 ≤ k ∧ k ≤ 82
  · rw [if_pos h8]; decide
  · rw [if_neg h8] at h; exact absurd rfl h
theorem QLE_rf : QLE Q Q := fun _ _ => Nat.le_refl _
theorem QLE_tr (h : QLE Q Q2) (k : QLE Q2 Q3) : QLE Q Q3 := fun j hj => Nat.le_trans (h j hj) (k j hj)
theorem QLE_st (h : QLE Q Q2) {k : Nat} (hn : Q k ≤ n) : QLE Q (qst Q2 k n) := fun j hj => by
  show Q j ≤ if j = k then n else Q2 j
  by_cases z : j = k
  · rw [if_pos z, z]; exact hn
  · rw [if_neg z]; exact h j hj
theorem qst_at {k : Nat} : qst Q k n k = n := if_pos rfl
theorem qst_no {k j : Nat} (h : j ≠ k) : qst Q k n j = Q j := if_neg h
theorem QRR_rf : QRR Q w w := ⟨fun _ _ _ _ => rfl, fun _ _ _ _ => rfl, fun _ _ _ => rfl⟩
theorem QRR_tr (h : QRR Q w v) (k : QRR Q2 v u) (hq : QLE Q Q2) : QRR Q w u := ⟨fun j a b c => (k.1 j a b c).trans (h.1 j a b c), fun j q a b => (k.2.1 j q a (Nat.lt_of_lt_of_le b (hq _ (grp_m a)))).trans (h.2.1 j q a b), fun j q a => (k.2.2 j q (by
  rcases a with a | a
  · exact Or.inl a
  · exact Or.inr (Nat.lt_of_lt_of_le a (hq 39 (by decide))))).trans (h.2.2 j q a)⟩
theorem QRR_I {k : Nat} (h : QRR Q w v) : QRR Q w (upI v k x) := h
theorem QRR_A {k : Nat} (h : QRR Q w v) (hk : grp k ≠ 0) (hq : Q (grp k) ≤ q) : QRR Q w (upA v k (upd (v.2.2.1 k) q x)) := ⟨fun j a b c => by
  have : j ≠ k := fun e => hk (e ▸ a)
  rw [upA_no this]; exact h.1 j a b c, fun j r a b => by
  by_cases z : j = k
  · subst z
    rw [upA_at, upd_no (by omega)]; exact h.2.1 j r a b
  · rw [upA_no z]; exact h.2.1 j r a b, h.2.2⟩
theorem QRR_S {k : Nat} {z : Nat → Int32} (h : QRR Q w v) (hk : (59 ≤ k ∧ k ≤ 64) ∨ k = 78) : QRR Q w (upA v k z) := ⟨fun j a b c => by
  have : j ≠ k := fun e => by omega
  rw [upA_no this]; exact h.1 j a b c, fun j r a b => by
  have : j ≠ k := fun e => by
    rw [e] at a
    unfold grp at a
    rw [if_neg (by omega), if_neg (by omega), if_neg (by omega), if_neg (by omega), if_neg (by omega), if_neg (by omega), if_neg (by omega), if_neg (by omega)] at a
    exact a rfl
  rw [upA_no this]; exact h.2.1 j r a b, h.2.2⟩
theorem QRR_e (h : QRR Q w v) (e1 : u.2.2.1 = v.2.2.1) (e2 : u.2.2.2 = v.2.2.2) : QRR Q w u := by
  unfold QRR at h ⊢
  rw [e1, e2]; exact h
theorem QRR_P {pi : Nat} (h : RFP w v pi) (hp : Q 39 ≤ pi) : QRR Q w v := ⟨fun k a b c => by
  refine h.2.1 k ?_
  unfold grp at a
  by_cases z : 33 ≤ k ∧ k ≤ 38
  · by_cases z1 : 23 ≤ k ∧ k ≤ 31
    · omega
    · rw [if_neg z1, if_pos z] at a
      cases a
  · omega, fun k q a b => by
  by_cases z : 33 ≤ k ∧ k ≤ 38
  · have e : grp k = 39 := by
      unfold grp
      rw [if_neg (by omega), if_pos z]
    rw [e] at b
    exact h.2.2.1 k q (by omega) (by omega)
  · have : ¬ (59 ≤ k ∧ k ≤ 64) := fun y => by
      unfold grp at a
      rw [if_neg (by omega), if_neg (by omega), if_neg (by omega), if_neg (by omega), if_neg (by omega), if_neg (by omega), if_neg (by omega), if_neg (by omega)] at a
      exact a rfl
    rw [h.2.1 k (by omega)], fun k q a => h.2.2.2 k q (by omega)⟩
theorem nsh {t : Nat} (h : t ≤ 4002) : vp_nar .short ((I (t : Nat)).toInt16.toInt32) = I (t : Nat) := by
  have h1 : ((I (t : Nat)).toInt16).toInt = ((t : Nat) : Int) := by
    rw [Int32.toInt_toInt16, I_ti (by omega) (by omega)]
    exact Int.bmod_eq_of_le (by omega) (by omega)
  have h2 : (I (t : Nat)).toInt16.toInt32 = I (t : Nat) := by
    apply Int32.toInt_inj.mp
    rw [Int16.toInt_toInt32, h1, I_ti (by omega) (by omega)]
  rw [h2]
  show (I (t : Nat)).toInt16.toInt32 = _
  exact h2
theorem nod_e (h : w.1 32 = I (i : Nat)) (hi : i ≤ 24000) (hk : vp_nar .byte (k.toInt8.toInt32) = k) (ht : vp_nar .short (t.toInt16.toInt32) = t) : fm_M_node N w k t = if i < 16000 then some (nwD w i k t, I (i : Nat)) else none := by
  unfold fm_M_node fb_M_node_0
  rw [hk, ht, show vp_nar .boolean 0 = 0 from rfl, h, i_nt2 (by omega)]
  by_cases z : i < 16000
  · rw [if_pos z, show ln 23 = 16000 from rfl, i_inb z (by decide), ck_t, lt_e]
    have e1 : ∀ (v : MS) (j : Nat) (q : Nat → Int32), (upA v j q).1 32 = v.1 32 := fun _ _ _ => rfl
    simp only [e1, h, i_nt2 (show i ≤ 100000 by omega), show ln 24 = 16000 from rfl, show ln 25 = 16000 from rfl, show ln 26 = 16000 from rfl, show ln 27 = 16000 from rfl, show ln 28 = 16000 from rfl, show ln 29 = 16000 from rfl, show ln 30 = 16000 from rfl, i_inb z (show 16000 ≤ 2147483647 by decide), ck_t, lt_e, i_suc]
    rw [upI_at, show ((i + 1 : Nat) : Int) = (i : Int) + 1 by omega, ← I_add, ← lit1q, show I (i : Nat) + 1 - 1 = I (i : Nat) by rw [lit1q, I_add, I_sub]; congr 1; omega]
    rw [lit1q, I_add, show (i : Int) + 1 = ((i + 1 : Nat) : Int) by omega]
    rfl
  · rw [if_neg z]
    have : inb (I (i : Nat)) (ln 23) = false := by
      rw [show ln 23 = 16000 from rfl]
      cases hb : inb (I (i : Nat)) 16000 with
      | false => rfl
      | true => have := (I_inb (by omega) (by omega)).mp hb; omega
    rw [this]
    rfl
theorem r_nod (h : w.1 32 = I (i : Nat)) (hi : i ≤ 24000) (hk : vp_nar .byte (k.toInt8.toInt32) = k) (ht : vp_nar .short (t.toInt16.toInt32) = t) (hh : i < 16000 → PP R A' (f (nwD w i k t) (I (i : Nat)))) : PP R A' (bnd (fm_M_node N w k t) f) := by
  rw [nod_e h hi hk ht]
  by_cases z : i < 16000
  · rw [if_pos z, bnd_s]
    exact hh z
  · rw [if_neg z]
    exact pp_nr
theorem nwD_n : (nwD w i k t).1 32 = I ((i + 1 : Nat) : Int) := upI_at
theorem nwD_i {j : Nat} (h : j ≠ 32) : (nwD w i k t).1 j = w.1 j := upI_ne h
theorem nwD_r {j : Nat} (h : j < 23 ∨ 30 < j) : (nwD w i k t).2.2.1 j = w.2.2.1 j := by
  show (upA (upA (upA (upA (upA (upA (upA (upA w 23 (upd (w.2.2.1 23) i k)) 24 (upd (w.2.2.1 24) i t)) 25 (upd (w.2.2.1 25) i (-1))) 26 (upd (w.2.2.1 26) i (-1))) 27 (upd (w.2.2.1 27) i (-1))) 28 (upd (w.2.2.1 28) i (-1))) 29 (upd (w.2.2.1 29) i (-1))) 30 (upd (w.2.2.1 30) i 0)).2.2.1 j = _
  rw [upA_no (by omega), upA_no (by omega), upA_no (by omega), upA_no (by omega), upA_no (by omega), upA_no (by omega), upA_no (by omega), upA_no (by omega)]
theorem nwD_o {j q : Nat} (h : q ≠ i) : (nwD w i k t).2.2.1 j q = w.2.2.1 j q := by
  show (if j = 30 then upd (w.2.2.1 30) i 0 else if j = 29 then upd (w.2.2.1 29) i (-1) else if j = 28 then upd (w.2.2.1 28) i (-1) else if j = 27 then upd (w.2.2.1 27) i (-1) else if j = 26 then upd (w.2.2.1 26) i (-1) else if j = 25 then upd (w.2.2.1 25) i (-1) else if j = 24 then upd (w.2.2.1 24) i t else if j = 23 then upd (w.2.2.1 23) i k else w.2.2.1 j) q = _
  by_cases h1 : j = 30
  · rw [if_pos h1, upd_no h, h1]
  rw [if_neg h1]
  by_cases h2 : j = 29
  · rw [if_pos h2, upd_no h, h2]
  rw [if_neg h2]
  by_cases h3 : j = 28
  · rw [if_pos h3, upd_no h, h3]
  rw [if_neg h3]
  by_cases h4 : j = 27
  · rw [if_pos h4, upd_no h, h4]
  rw [if_neg h4]
  by_cases h5 : j = 26
  · rw [if_pos h5, upd_no h, h5]
  rw [if_neg h5]
  by_cases h6 : j = 25
  · rw [if_pos h6, upd_no h, h6]
  rw [if_neg h6]
  by_cases h7 : j = 24
  · rw [if_pos h7, upd_no h, h7]
  rw [if_neg h7]
  by_cases h8 : j = 23
  · rw [if_pos h8, upd_no h, h8]
  rw [if_neg h8]
theorem nwD_at : (nwD w i k t).2.2.1 23 i = k ∧ (nwD w i k t).2.2.1 24 i = t ∧ (nwD w i k t).2.2.1 25 i = -1 ∧ (nwD w i k t).2.2.1 26 i = -1 ∧ (nwD w i k t).2.2.1 27 i = -1 ∧ (nwD w i k t).2.2.1 28 i = -1 ∧ (nwD w i k t).2.2.1 29 i = -1 ∧ (nwD w i k t).2.2.1 30 i = 0 := ⟨upd_at, upd_at, upd_at, upd_at, upd_at, upd_at, upd_at, upd_at⟩
theorem QRR_D (h : QRR Q w v) (hq : Q 32 ≤ i) : QRR Q w (nwD v i k t) := ⟨fun j a b c => by
  rw [nwD_r (by
    unfold grp at a
    by_cases z : 23 ≤ j ∧ j ≤ 31
    · rw [if_pos z] at a; cases a
    · omega)]
  exact h.1 j a b c, fun j r a b => by
  by_cases z : 23 ≤ j ∧ j ≤ 31
  · have e : grp j = 32 := if_pos z
    rw [e] at b
    rw [nwD_o (by omega)]
    exact h.2.1 j r a (by rw [e]; exact b)
  · rw [nwD_r (by omega)]
    exact h.2.1 j r a b, h.2.2⟩
theorem QMK_I {j : Nat} (h : QMK w Q) (hj : j ∉ MKs) : QMK (upI w j x) Q := fun k hk => by
  have : k ≠ j := fun e => hj (e ▸ hk)
  rw [upI_ne this]
  exact h k hk
theorem QMK_st {j : Nat} (h : QMK w Q) (hn : n ≤ 24000) : QMK (upI w j (I (n : Nat))) (qst Q j n) := fun k hk => by
  by_cases z : k = j
  · rw [z, qst_at, upI_at]; exact ⟨rfl, hn⟩
  · rw [qst_no z, upI_ne z]; exact h k hk
end
end
