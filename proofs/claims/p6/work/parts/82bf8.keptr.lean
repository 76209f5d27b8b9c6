set_option maxRecDepth 100000
def Krc (u w : MS) : Prop := (∀ k, k ∉ [32, 39] → w.1 k = u.1 k) ∧ ∀ k, k < 23 ∨ 39 ≤ k → w.2.2.1 k = u.2.2.1 k
def KrE {α : Type} (u : MS) (o : Option (MS × α)) : Prop := ∀ w r, o = some (w, r) → Krc u w
section
variable {α β : Type} {u0 u w : MS} {k : Nat}
theorem Kr_none : KrE u0 (none : Option (MS × α)) := fun _ _ e => by cases e
theorem Kr_some {r : α} (h : Krc u0 w) : KrE u0 (some (w, r)) := fun _ _ e => by injection e with e; injection e with e1 _; exact e1 ▸ h
theorem Kr_br {b : Bool} {p q : Option (MS × α)} (h1 : KrE u0 p) (h2 : KrE u0 q) : KrE u0 (br b p q) := by cases b <;> assumption
theorem Kr_ck {b : Bool} {p : Option (MS × α)} (h1 : KrE u0 p) : KrE u0 (ck b p) := by
  cases b
  · exact Kr_none
  · exact h1
theorem Kr_bo {o : Option β} {f : β → Option (MS × α)} (h : ∀ j, KrE u0 (f j)) : KrE u0 (bo o f) := by
  cases o with
  | none => exact Kr_none
  | some j => exact h j
theorem Kr_bnd {o : Option (MS × β)} {f : MS → β → Option (MS × α)} (h1 : KrE u0 o) (h2 : ∀ w r, Krc u0 w → KrE u0 (f w r)) : KrE u0 (bnd o f) := by
  cases o with
  | none => exact Kr_none
  | some x => exact h2 x.1 x.2 (h1 x.1 x.2 rfl)
theorem Kr_T {o : Option (MS × (β ⊕ Nat))} {f : MS → β → Option (MS × (α ⊕ Nat))} (h1 : KrE u0 o) (h2 : ∀ w r, Krc u0 w → KrE u0 (f w r)) : KrE u0 (bTm o f) := by
  cases o with
  | none => exact Kr_none
  | some x =>
    obtain ⟨x, z⟩ := x
    cases z with
    | inl v => exact h2 x v (h1 x _ rfl)
    | inr k => exact Kr_some (h1 x _ rfl)
theorem Kr_H {o : Option (MS × (β ⊕ Nat))} {f : MS → β → Option (MS × α)} {g : MS → Option (MS × α)} (h1 : KrE u0 o) (h2 : ∀ w r, Krc u0 w → KrE u0 (f w r)) (h3 : ∀ w, Krc u0 w → KrE u0 (g w)) : KrE u0 (bHm o f g) := by
  cases o with
  | none => exact Kr_none
  | some x =>
    obtain ⟨x, z⟩ := x
    cases z with
    | inl v => exact h2 x v (h1 x _ rfl)
    | inr k =>
      show KrE u0 (if k = 3 then g x else none)
      split
      · exact h3 x (h1 x _ rfl)
      · exact Kr_none
theorem Kr_ltm {x : MS} {f : MS → Option (MS × α)} (h1 : Krc u0 x) (h2 : ∀ w, Krc u0 w → KrE u0 (f w)) : KrE u0 (lt x f) := h2 x h1
theorem Kr_ltv {x : β} {f : β → Option (MS × α)} (h2 : ∀ y, KrE u0 (f y)) : KrE u0 (lt x f) := h2 x
theorem Kr_I {v : Int32} (h : Krc u0 u) (hk : k ∈ [32, 39]) : Krc u0 (upI u k v) := ⟨fun j hj => (if_neg (fun e => hj (by rw [e]; exact hk))).trans (h.1 j hj), h.2⟩
theorem Kr_L {v : Int64} (h : Krc u0 u) : Krc u0 (upL u k v) := h
theorem Kr_J {v : Nat → Int64} (h : Krc u0 u) : Krc u0 (upJ u k v) := h
theorem Kr_A {v : Nat → Int32} (h : Krc u0 u) (hk : 23 ≤ k ∧ k < 39) : Krc u0 (upA u k v) := ⟨h.1, fun j hj => (if_neg (by omega)).trans (h.2 j hj)⟩
theorem Kr_rf : Krc u u := ⟨fun _ _ => rfl, fun _ _ => rfl⟩
end
section
variable {u0 u : MS} {N : Nat}
theorem yr_fb_M_node_0 {G : Unit} {v1 : Int32} {v2 : Int32} (h : Krc u0 u)  : KrE u0 (fb_M_node_0 N G u v1 v2) := by
  unfold fb_M_node_0
  repeat' (first | with_reducible assumption | with_reducible refine Kr_br ?_ ?_ | with_reducible refine Kr_bnd ?_ (fun _ _ _ => ?_) | with_reducible refine Kr_ck ?_ | with_reducible refine Kr_ltm ?_ (fun _ _ => ?_) | with_reducible refine Kr_some ?_ | with_reducible refine Kr_bo (fun _ => ?_) | with_reducible refine Kr_T ?_ (fun _ _ _ => ?_) | with_reducible refine Kr_H ?_ (fun _ _ _ => ?_) (fun _ _ => ?_) | with_reducible refine Kr_ltv (fun _ => ?_) | with_reducible refine Kr_I ?_ (by decide) | with_reducible refine Kr_A ?_ (by decide) | with_reducible refine Kr_J ?_ | with_reducible refine Kr_L ?_)
theorem yr_fm_M_node {v1 : Int32} {v2 : Int32} (h : Krc u0 u)  : KrE u0 (fm_M_node N u v1 v2) := by
  unfold fm_M_node
  exact yr_fb_M_node_0 h
theorem yr_fb_M_pattern_0 {G : Unit} {v1 : Int32} (h : Krc u0 u)  : KrE u0 (fb_M_pattern_0 N G u v1) := by
  unfold fb_M_pattern_0
  repeat' (first | with_reducible assumption | with_reducible refine Kr_br ?_ ?_ | with_reducible refine Kr_bnd ?_ (fun _ _ _ => ?_) | with_reducible refine Kr_ck ?_ | with_reducible refine Kr_ltm ?_ (fun _ _ => ?_) | with_reducible refine Kr_some ?_ | with_reducible refine Kr_bo (fun _ => ?_) | with_reducible refine Kr_T ?_ (fun _ _ _ => ?_) | with_reducible refine Kr_H ?_ (fun _ _ _ => ?_) (fun _ _ => ?_) | with_reducible refine Kr_ltv (fun _ => ?_) | with_reducible refine Kr_I ?_ (by decide) | with_reducible refine Kr_A ?_ (by decide) | with_reducible refine Kr_J ?_ | with_reducible refine Kr_L ?_)
theorem yr_fm_M_pattern {v1 : Int32} (h : Krc u0 u)  : KrE u0 (fm_M_pattern N u v1) := by
  unfold fm_M_pattern
  exact yr_fb_M_pattern_0 h
theorem yr_fb_M_term_0 {G : Unit} {v0 : Int32} {v1 : Int32} (h : Krc u0 u)  : KrE u0 (fb_M_term_0 N G u v0 v1) := by
  unfold fb_M_term_0
  repeat' (first | with_reducible assumption | with_reducible refine Kr_br ?_ ?_ | with_reducible refine Kr_bnd ?_ (fun _ _ _ => ?_) | with_reducible refine Kr_ck ?_ | with_reducible refine Kr_ltm ?_ (fun _ _ => ?_) | with_reducible refine Kr_some ?_ | with_reducible refine Kr_bo (fun _ => ?_) | with_reducible refine Kr_T ?_ (fun _ _ _ => ?_) | with_reducible refine Kr_H ?_ (fun _ _ _ => ?_) (fun _ _ => ?_) | with_reducible refine Kr_ltv (fun _ => ?_) | with_reducible refine Kr_I ?_ (by decide) | with_reducible refine Kr_A ?_ (by decide) | with_reducible refine Kr_J ?_ | with_reducible refine Kr_L ?_)
theorem yr_fm_M_term {v0 : Int32} {v1 : Int32} (h : Krc u0 u)  : KrE u0 (fm_M_term N u v0 v1) := by
  unfold fm_M_term
  exact yr_fb_M_term_0 h
theorem yr_fb_M_addRoot_24 {G : Unit} (h : Krc u0 u)  : KrE u0 (fb_M_addRoot_24 N G u) := by
  unfold fb_M_addRoot_24
  repeat' (first | with_reducible assumption | with_reducible refine Kr_br ?_ ?_ | with_reducible refine Kr_bnd ?_ (fun _ _ _ => ?_) | with_reducible refine Kr_ck ?_ | with_reducible refine Kr_ltm ?_ (fun _ _ => ?_) | with_reducible refine Kr_some ?_ | with_reducible refine Kr_bo (fun _ => ?_) | with_reducible refine Kr_T ?_ (fun _ _ _ => ?_) | with_reducible refine Kr_H ?_ (fun _ _ _ => ?_) (fun _ _ => ?_) | with_reducible refine Kr_ltv (fun _ => ?_) | with_reducible refine Kr_I ?_ (by decide) | with_reducible refine Kr_A ?_ (by decide) | with_reducible refine Kr_J ?_ | with_reducible refine Kr_L ?_)
theorem yr_fb_M_addRoot_0 {G : Unit} {v1 : Int32} {v2 : Int32} (h : Krc u0 u)  : KrE u0 (fb_M_addRoot_0 N G u v1 v2) := by
  unfold fb_M_addRoot_0
  repeat' (first | with_reducible assumption | with_reducible refine Kr_br ?_ ?_ | with_reducible refine Kr_bnd ?_ (fun _ _ _ => ?_) | with_reducible refine Kr_ck ?_ | with_reducible refine Kr_ltm ?_ (fun _ _ => ?_) | with_reducible refine Kr_some ?_ | with_reducible refine Kr_bo (fun _ => ?_) | with_reducible refine Kr_T ?_ (fun _ _ _ => ?_) | with_reducible refine Kr_H ?_ (fun _ _ _ => ?_) (fun _ _ => ?_) | with_reducible exact yr_fb_M_addRoot_24 (by assumption) | with_reducible refine Kr_ltv (fun _ => ?_) | with_reducible refine Kr_I ?_ (by decide) | with_reducible refine Kr_A ?_ (by decide) | with_reducible refine Kr_J ?_ | with_reducible refine Kr_L ?_)
theorem yr_fm_M_addRoot {v1 : Int32} {v2 : Int32} (h : Krc u0 u)  : KrE u0 (fm_M_addRoot N u v1 v2) := by
  unfold fm_M_addRoot
  exact yr_fb_M_addRoot_0 h
theorem yr_fb_M_last_42 {S : SG_M_last} {G : (MS → Int32 → Option (MS × Unit))} {v2 : Int32} (h : Krc u0 u) (hS0 : ∀ (u : MS) a0, Krc u0 u → KrE u0 (S u a0)) (hG0 : ∀ (u : MS) a0, Krc u0 u → KrE u0 (G u a0)) : KrE u0 (fb_M_last_42 N S G u v2) := by
  unfold fb_M_last_42
  repeat' (first | with_reducible assumption | with_reducible refine Kr_br ?_ ?_ | with_reducible refine Kr_bnd ?_ (fun _ _ _ => ?_) | with_reducible refine Kr_ck ?_ | with_reducible refine Kr_ltm ?_ (fun _ _ => ?_) | with_reducible refine Kr_some ?_ | with_reducible refine Kr_bo (fun _ => ?_) | with_reducible refine Kr_T ?_ (fun _ _ _ => ?_) | with_reducible refine Kr_H ?_ (fun _ _ _ => ?_) (fun _ _ => ?_) | with_reducible exact hS0 _ _ (by assumption) | with_reducible exact hG0 _ _ (by assumption) | with_reducible refine Kr_ltv (fun _ => ?_) | with_reducible refine Kr_I ?_ (by decide) | with_reducible refine Kr_A ?_ (by decide) | with_reducible refine Kr_J ?_ | with_reducible refine Kr_L ?_)
theorem yr_fb_M_last_35 {S : SG_M_last} {G : (MS → Int32 → Option (MS × Unit))} {v1 : Int32} (h : Krc u0 u) (hS0 : ∀ (u : MS) a0, Krc u0 u → KrE u0 (S u a0)) (hG0 : ∀ (u : MS) a0, Krc u0 u → KrE u0 (G u a0)) : KrE u0 (fb_M_last_35 N S G u v1) := by
  unfold fb_M_last_35
  repeat' (first | with_reducible assumption | with_reducible refine Kr_br ?_ ?_ | with_reducible refine Kr_bnd ?_ (fun _ _ _ => ?_) | with_reducible refine Kr_ck ?_ | with_reducible refine Kr_ltm ?_ (fun _ _ => ?_) | with_reducible refine Kr_some ?_ | with_reducible refine Kr_bo (fun _ => ?_) | with_reducible refine Kr_T ?_ (fun _ _ _ => ?_) | with_reducible refine Kr_H ?_ (fun _ _ _ => ?_) (fun _ _ => ?_) | with_reducible exact hS0 _ _ (by assumption) | with_reducible exact hG0 _ _ (by assumption) | with_reducible refine Kr_ltv (fun _ => ?_) | with_reducible refine Kr_I ?_ (by decide) | with_reducible refine Kr_A ?_ (by decide) | with_reducible refine Kr_J ?_ | with_reducible refine Kr_L ?_)
theorem yr_fb_M_last_28 {S : SG_M_last} {G : (MS → Int32 → Option (MS × Unit))} {v1 : Int32} (h : Krc u0 u) (hS0 : ∀ (u : MS) a0, Krc u0 u → KrE u0 (S u a0)) (hG0 : ∀ (u : MS) a0, Krc u0 u → KrE u0 (G u a0)) : KrE u0 (fb_M_last_28 N S G u v1) := by
  unfold fb_M_last_28
  repeat' (first | with_reducible assumption | with_reducible refine Kr_br ?_ ?_ | with_reducible refine Kr_bnd ?_ (fun _ _ _ => ?_) | with_reducible refine Kr_ck ?_ | with_reducible refine Kr_ltm ?_ (fun _ _ => ?_) | with_reducible refine Kr_some ?_ | with_reducible refine Kr_bo (fun _ => ?_) | with_reducible refine Kr_T ?_ (fun _ _ _ => ?_) | with_reducible refine Kr_H ?_ (fun _ _ _ => ?_) (fun _ _ => ?_) | with_reducible exact yr_fb_M_last_35 (by assumption) hS0 hG0 | with_reducible exact hS0 _ _ (by assumption) | with_reducible exact hG0 _ _ (by assumption) | with_reducible refine Kr_ltv (fun _ => ?_) | with_reducible refine Kr_I ?_ (by decide) | with_reducible refine Kr_A ?_ (by decide) | with_reducible refine Kr_J ?_ | with_reducible refine Kr_L ?_)
theorem yr_fb_M_last_0 {S : SG_M_last} {G : (MS → Int32 → Option (MS × Unit))} {v1 : Int32} (h : Krc u0 u) (hS0 : ∀ (u : MS) a0, Krc u0 u → KrE u0 (S u a0)) (hG0 : ∀ (u : MS) a0, Krc u0 u → KrE u0 (G u a0)) : KrE u0 (fb_M_last_0 N S G u v1) := by
  unfold fb_M_last_0
  repeat' (first | with_reducible assumption | with_reducible refine Kr_br ?_ ?_ | with_reducible refine Kr_bnd ?_ (fun _ _ _ => ?_) | with_reducible refine Kr_ck ?_ | with_reducible refine Kr_ltm ?_ (fun _ _ => ?_) | with_reducible refine Kr_some ?_ | with_reducible refine Kr_bo (fun _ => ?_) | with_reducible refine Kr_T ?_ (fun _ _ _ => ?_) | with_reducible refine Kr_H ?_ (fun _ _ _ => ?_) (fun _ _ => ?_) | with_reducible exact yr_fb_M_last_28 (by assumption) hS0 hG0 | with_reducible exact yr_fb_M_last_35 (by assumption) hS0 hG0 | with_reducible exact hS0 _ _ (by assumption) | with_reducible exact hG0 _ _ (by assumption) | with_reducible refine Kr_ltv (fun _ => ?_) | with_reducible refine Kr_I ?_ (by decide) | with_reducible refine Kr_A ?_ (by decide) | with_reducible refine Kr_J ?_ | with_reducible refine Kr_L ?_)
theorem yr_gg_M_last {S : SG_M_last} (hS0 : ∀ (u : MS) a0, Krc u0 u → KrE u0 (S u a0)) (n : Nat) : (∀ (u : MS) a0, Krc u0 u → KrE u0 ((gg_M_last N S n) u a0)) := by
  induction n with
  | zero => exact fun _ _ _ => Kr_none
  | succ n ih => exact fun _ _ h => yr_fb_M_last_42 (N := N) h hS0 ih
theorem yr_fm_M_last {S : SG_M_last} {v1 : Int32} (h : Krc u0 u) (hS0 : ∀ (u : MS) a0, Krc u0 u → KrE u0 (S u a0)) : KrE u0 (fm_M_last N S u v1) := by
  unfold fm_M_last
  exact yr_fb_M_last_0 h hS0 ((yr_gg_M_last (N := N) hS0 N))
theorem yr_rc_M_last  (n : Nat) : (∀ (u : MS) a0, Krc u0 u → KrE u0 ((rc_M_last N n) u a0)) := by
  induction n with
  | zero => exact fun _ _ _ => Kr_none
  | succ n ih => exact fun _ _ h => yr_fm_M_last (N := N) h ih
theorem yr_fr_M_last {v1 : Int32} (h : Krc u0 u) : KrE u0 (fr_M_last N u v1) := by
  unfold fr_M_last
  exact (yr_rc_M_last (N := N) 60) _ _ h
end
