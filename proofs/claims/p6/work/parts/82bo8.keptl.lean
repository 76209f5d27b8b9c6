set_option maxRecDepth 100000
def Klc (u w : MS) : Prop := SMS u w ∧ w.1 69 = u.1 69
def KlE {α : Type} (u : MS) (o : Option (MS × α)) : Prop := ∀ w r, o = some (w, r) → Klc u w
section
variable {α β : Type} {u0 u w : MS} {k : Nat}
theorem Kl_none : KlE u0 (none : Option (MS × α)) := fun _ _ e => by cases e
theorem Kl_some {r : α} (h : Klc u0 w) : KlE u0 (some (w, r)) := fun _ _ e => by injection e with e; injection e with e1 _; exact e1 ▸ h
theorem Kl_br {b : Bool} {p q : Option (MS × α)} (h1 : KlE u0 p) (h2 : KlE u0 q) : KlE u0 (br b p q) := by cases b <;> assumption
theorem Kl_ck {b : Bool} {p : Option (MS × α)} (h1 : KlE u0 p) : KlE u0 (ck b p) := by
  cases b
  · exact Kl_none
  · exact h1
theorem Kl_bo {o : Option β} {f : β → Option (MS × α)} (h : ∀ j, KlE u0 (f j)) : KlE u0 (bo o f) := by
  cases o with
  | none => exact Kl_none
  | some j => exact h j
theorem Kl_bnd {o : Option (MS × β)} {f : MS → β → Option (MS × α)} (h1 : KlE u0 o) (h2 : ∀ w r, Klc u0 w → KlE u0 (f w r)) : KlE u0 (bnd o f) := by
  cases o with
  | none => exact Kl_none
  | some x => exact h2 x.1 x.2 (h1 x.1 x.2 rfl)
theorem Kl_T {o : Option (MS × (β ⊕ Nat))} {f : MS → β → Option (MS × (α ⊕ Nat))} (h1 : KlE u0 o) (h2 : ∀ w r, Klc u0 w → KlE u0 (f w r)) : KlE u0 (bTm o f) := by
  cases o with
  | none => exact Kl_none
  | some x =>
    obtain ⟨x, z⟩ := x
    cases z with
    | inl v => exact h2 x v (h1 x _ rfl)
    | inr k => exact Kl_some (h1 x _ rfl)
theorem Kl_H {o : Option (MS × (β ⊕ Nat))} {f : MS → β → Option (MS × α)} {g : MS → Option (MS × α)} (h1 : KlE u0 o) (h2 : ∀ w r, Klc u0 w → KlE u0 (f w r)) (h3 : ∀ w, Klc u0 w → KlE u0 (g w)) : KlE u0 (bHm o f g) := by
  cases o with
  | none => exact Kl_none
  | some x =>
    obtain ⟨x, z⟩ := x
    cases z with
    | inl v => exact h2 x v (h1 x _ rfl)
    | inr k =>
      show KlE u0 (if k = 3 then g x else none)
      split
      · exact h3 x (h1 x _ rfl)
      · exact Kl_none
theorem Kl_ltm {x : MS} {f : MS → Option (MS × α)} (h1 : Klc u0 x) (h2 : ∀ w, Klc u0 w → KlE u0 (f w)) : KlE u0 (lt x f) := h2 x h1
theorem Kl_ltv {x : β} {f : β → Option (MS × α)} (h2 : ∀ y, KlE u0 (f y)) : KlE u0 (lt x f) := h2 x
theorem Kl_I {v : Int32} (h : Klc u0 u) (hk : k ∉ SMI ∧ k ≠ 32 ∧ k ≠ 69) : Klc u0 (upI u k v) := ⟨SMS_I h.1 hk.1 hk.2.1, (upI_ne (fun e => hk.2.2 e.symm)).trans h.2⟩
theorem Kl_L {v : Int64} (h : Klc u0 u) : Klc u0 (upL u k v) := h
theorem Kl_J {v : Nat → Int64} (h : Klc u0 u) : Klc u0 (upJ u k v) := ⟨SMS_J h.1, h.2⟩
theorem Kl_A {v : Nat → Int32} (h : Klc u0 u) (hk : 28 ≤ k ∧ k ≤ 30) : Klc u0 (upA u k v) := ⟨SMS_A h.1 (by unfold SMX; omega) (by omega), h.2⟩
theorem Kl_rf : Klc u u := ⟨SMS_rf, rfl⟩
end
section
variable {u0 u : MS} {N : Nat}
theorem yl_fb_M_addRoot_24 {G : Unit} (h : Klc u0 u)  : KlE u0 (fb_M_addRoot_24 N G u) := by
  unfold fb_M_addRoot_24
  repeat' (first | with_reducible assumption | with_reducible refine Kl_br ?_ ?_ | with_reducible refine Kl_bnd ?_ (fun _ _ _ => ?_) | with_reducible refine Kl_ck ?_ | with_reducible refine Kl_ltm ?_ (fun _ _ => ?_) | with_reducible refine Kl_some ?_ | with_reducible refine Kl_bo (fun _ => ?_) | with_reducible refine Kl_T ?_ (fun _ _ _ => ?_) | with_reducible refine Kl_H ?_ (fun _ _ _ => ?_) (fun _ _ => ?_) | with_reducible refine Kl_ltv (fun _ => ?_) | with_reducible refine Kl_I ?_ (by decide) | with_reducible refine Kl_A ?_ (by decide) | with_reducible refine Kl_J ?_ | with_reducible refine Kl_L ?_)
theorem yl_fb_M_addRoot_0 {G : Unit} {v1 : Int32} {v2 : Int32} (h : Klc u0 u)  : KlE u0 (fb_M_addRoot_0 N G u v1 v2) := by
  unfold fb_M_addRoot_0
  repeat' (first | with_reducible assumption | with_reducible refine Kl_br ?_ ?_ | with_reducible refine Kl_bnd ?_ (fun _ _ _ => ?_) | with_reducible refine Kl_ck ?_ | with_reducible refine Kl_ltm ?_ (fun _ _ => ?_) | with_reducible refine Kl_some ?_ | with_reducible refine Kl_bo (fun _ => ?_) | with_reducible refine Kl_T ?_ (fun _ _ _ => ?_) | with_reducible refine Kl_H ?_ (fun _ _ _ => ?_) (fun _ _ => ?_) | with_reducible exact yl_fb_M_addRoot_24 (by assumption) | with_reducible refine Kl_ltv (fun _ => ?_) | with_reducible refine Kl_I ?_ (by decide) | with_reducible refine Kl_A ?_ (by decide) | with_reducible refine Kl_J ?_ | with_reducible refine Kl_L ?_)
theorem yl_fm_M_addRoot {v1 : Int32} {v2 : Int32} (h : Klc u0 u)  : KlE u0 (fm_M_addRoot N u v1 v2) := by
  unfold fm_M_addRoot
  exact yl_fb_M_addRoot_0 h
theorem yl_fb_M_last_42 {S : SG_M_last} {G : (MS → Int32 → Option (MS × Unit))} {v2 : Int32} (h : Klc u0 u) (hS0 : ∀ (u : MS) a0, Klc u0 u → KlE u0 (S u a0)) (hG0 : ∀ (u : MS) a0, Klc u0 u → KlE u0 (G u a0)) : KlE u0 (fb_M_last_42 N S G u v2) := by
  unfold fb_M_last_42
  repeat' (first | with_reducible assumption | with_reducible refine Kl_br ?_ ?_ | with_reducible refine Kl_bnd ?_ (fun _ _ _ => ?_) | with_reducible refine Kl_ck ?_ | with_reducible refine Kl_ltm ?_ (fun _ _ => ?_) | with_reducible refine Kl_some ?_ | with_reducible refine Kl_bo (fun _ => ?_) | with_reducible refine Kl_T ?_ (fun _ _ _ => ?_) | with_reducible refine Kl_H ?_ (fun _ _ _ => ?_) (fun _ _ => ?_) | with_reducible exact hS0 _ _ (by assumption) | with_reducible exact hG0 _ _ (by assumption) | with_reducible refine Kl_ltv (fun _ => ?_) | with_reducible refine Kl_I ?_ (by decide) | with_reducible refine Kl_A ?_ (by decide) | with_reducible refine Kl_J ?_ | with_reducible refine Kl_L ?_)
theorem yl_fb_M_last_35 {S : SG_M_last} {G : (MS → Int32 → Option (MS × Unit))} {v1 : Int32} (h : Klc u0 u) (hS0 : ∀ (u : MS) a0, Klc u0 u → KlE u0 (S u a0)) (hG0 : ∀ (u : MS) a0, Klc u0 u → KlE u0 (G u a0)) : KlE u0 (fb_M_last_35 N S G u v1) := by
  unfold fb_M_last_35
  repeat' (first | with_reducible assumption | with_reducible refine Kl_br ?_ ?_ | with_reducible refine Kl_bnd ?_ (fun _ _ _ => ?_) | with_reducible refine Kl_ck ?_ | with_reducible refine Kl_ltm ?_ (fun _ _ => ?_) | with_reducible refine Kl_some ?_ | with_reducible refine Kl_bo (fun _ => ?_) | with_reducible refine Kl_T ?_ (fun _ _ _ => ?_) | with_reducible refine Kl_H ?_ (fun _ _ _ => ?_) (fun _ _ => ?_) | with_reducible exact hS0 _ _ (by assumption) | with_reducible exact hG0 _ _ (by assumption) | with_reducible refine Kl_ltv (fun _ => ?_) | with_reducible refine Kl_I ?_ (by decide) | with_reducible refine Kl_A ?_ (by decide) | with_reducible refine Kl_J ?_ | with_reducible refine Kl_L ?_)
theorem yl_fb_M_last_28 {S : SG_M_last} {G : (MS → Int32 → Option (MS × Unit))} {v1 : Int32} (h : Klc u0 u) (hS0 : ∀ (u : MS) a0, Klc u0 u → KlE u0 (S u a0)) (hG0 : ∀ (u : MS) a0, Klc u0 u → KlE u0 (G u a0)) : KlE u0 (fb_M_last_28 N S G u v1) := by
  unfold fb_M_last_28
  repeat' (first | with_reducible assumption | with_reducible refine Kl_br ?_ ?_ | with_reducible refine Kl_bnd ?_ (fun _ _ _ => ?_) | with_reducible refine Kl_ck ?_ | with_reducible refine Kl_ltm ?_ (fun _ _ => ?_) | with_reducible refine Kl_some ?_ | with_reducible refine Kl_bo (fun _ => ?_) | with_reducible refine Kl_T ?_ (fun _ _ _ => ?_) | with_reducible refine Kl_H ?_ (fun _ _ _ => ?_) (fun _ _ => ?_) | with_reducible exact yl_fb_M_last_35 (by assumption) hS0 hG0 | with_reducible exact hS0 _ _ (by assumption) | with_reducible exact hG0 _ _ (by assumption) | with_reducible refine Kl_ltv (fun _ => ?_) | with_reducible refine Kl_I ?_ (by decide) | with_reducible refine Kl_A ?_ (by decide) | with_reducible refine Kl_J ?_ | with_reducible refine Kl_L ?_)
theorem yl_fb_M_last_0 {S : SG_M_last} {G : (MS → Int32 → Option (MS × Unit))} {v1 : Int32} (h : Klc u0 u) (hS0 : ∀ (u : MS) a0, Klc u0 u → KlE u0 (S u a0)) (hG0 : ∀ (u : MS) a0, Klc u0 u → KlE u0 (G u a0)) : KlE u0 (fb_M_last_0 N S G u v1) := by
  unfold fb_M_last_0
  repeat' (first | with_reducible assumption | with_reducible refine Kl_br ?_ ?_ | with_reducible refine Kl_bnd ?_ (fun _ _ _ => ?_) | with_reducible refine Kl_ck ?_ | with_reducible refine Kl_ltm ?_ (fun _ _ => ?_) | with_reducible refine Kl_some ?_ | with_reducible refine Kl_bo (fun _ => ?_) | with_reducible refine Kl_T ?_ (fun _ _ _ => ?_) | with_reducible refine Kl_H ?_ (fun _ _ _ => ?_) (fun _ _ => ?_) | with_reducible exact yl_fb_M_last_28 (by assumption) hS0 hG0 | with_reducible exact yl_fb_M_last_35 (by assumption) hS0 hG0 | with_reducible exact hS0 _ _ (by assumption) | with_reducible exact hG0 _ _ (by assumption) | with_reducible refine Kl_ltv (fun _ => ?_) | with_reducible refine Kl_I ?_ (by decide) | with_reducible refine Kl_A ?_ (by decide) | with_reducible refine Kl_J ?_ | with_reducible refine Kl_L ?_)
theorem yl_gg_M_last {S : SG_M_last} (hS0 : ∀ (u : MS) a0, Klc u0 u → KlE u0 (S u a0)) (n : Nat) : (∀ (u : MS) a0, Klc u0 u → KlE u0 ((gg_M_last N S n) u a0)) := by
  induction n with
  | zero => exact fun _ _ _ => Kl_none
  | succ n ih => exact fun _ _ h => yl_fb_M_last_42 (N := N) h hS0 ih
theorem yl_fm_M_last {S : SG_M_last} {v1 : Int32} (h : Klc u0 u) (hS0 : ∀ (u : MS) a0, Klc u0 u → KlE u0 (S u a0)) : KlE u0 (fm_M_last N S u v1) := by
  unfold fm_M_last
  exact yl_fb_M_last_0 h hS0 ((yl_gg_M_last (N := N) hS0 N))
theorem yl_rc_M_last  (n : Nat) : (∀ (u : MS) a0, Klc u0 u → KlE u0 ((rc_M_last N n) u a0)) := by
  induction n with
  | zero => exact fun _ _ _ => Kl_none
  | succ n ih => exact fun _ _ h => yl_fm_M_last (N := N) h ih
theorem yl_fr_M_last {v1 : Int32} (h : Klc u0 u) : KlE u0 (fr_M_last N u v1) := by
  unfold fr_M_last
  exact (yl_rc_M_last (N := N) 60) _ _ h
end
