section
set_option maxRecDepth 100000
def Kwdc (u w : MS) : Prop := ∀ K, K = 92 ∨ K = 94 ∨ K = 95 ∨ K = 98 → w.2.2.1 K = u.2.2.1 K
def KwdE {α : Type} (u : MS) (o : Option (MS × α)) : Prop := ∀ w r, o = some (w, r) → Kwdc u w
section
variable {α β : Type} {u0 u w : MS} {k : Nat}
theorem Kwd_none : KwdE u0 (none : Option (MS × α)) := fun _ _ e => by cases e
theorem Kwd_some {r : α} (h : Kwdc u0 w) : KwdE u0 (some (w, r)) := fun _ _ e => by injection e with e; injection e with e1 _; exact e1 ▸ h
theorem Kwd_br {b : Bool} {p q : Option (MS × α)} (h1 : KwdE u0 p) (h2 : KwdE u0 q) : KwdE u0 (br b p q) := by cases b <;> assumption
theorem Kwd_ck {b : Bool} {p : Option (MS × α)} (h1 : KwdE u0 p) : KwdE u0 (ck b p) := by
  cases b
  · exact Kwd_none
  · exact h1
theorem Kwd_bo {o : Option β} {f : β → Option (MS × α)} (h : ∀ j, KwdE u0 (f j)) : KwdE u0 (bo o f) := by
  cases o with
  | none => exact Kwd_none
  | some j => exact h j
theorem Kwd_bnd {o : Option (MS × β)} {f : MS → β → Option (MS × α)} (h1 : KwdE u0 o) (h2 : ∀ w r, Kwdc u0 w → KwdE u0 (f w r)) : KwdE u0 (bnd o f) := by
  cases o with
  | none => exact Kwd_none
  | some x => exact h2 x.1 x.2 (h1 x.1 x.2 rfl)
theorem Kwd_T {o : Option (MS × (β ⊕ Nat))} {f : MS → β → Option (MS × (α ⊕ Nat))} (h1 : KwdE u0 o) (h2 : ∀ w r, Kwdc u0 w → KwdE u0 (f w r)) : KwdE u0 (bTm o f) := by
  cases o with
  | none => exact Kwd_none
  | some x =>
    obtain ⟨x, z⟩ := x
    cases z with
    | inl v => exact h2 x v (h1 x _ rfl)
    | inr k => exact Kwd_some (h1 x _ rfl)
theorem Kwd_H {o : Option (MS × (β ⊕ Nat))} {f : MS → β → Option (MS × α)} {g : MS → Option (MS × α)} (h1 : KwdE u0 o) (h2 : ∀ w r, Kwdc u0 w → KwdE u0 (f w r)) (h3 : ∀ w, Kwdc u0 w → KwdE u0 (g w)) : KwdE u0 (bHm o f g) := by
  cases o with
  | none => exact Kwd_none
  | some x =>
    obtain ⟨x, z⟩ := x
    cases z with
    | inl v => exact h2 x v (h1 x _ rfl)
    | inr k =>
      show KwdE u0 (if k = 3 then g x else none)
      split
      · exact h3 x (h1 x _ rfl)
      · exact Kwd_none
theorem Kwd_ltm {x : MS} {f : MS → Option (MS × α)} (h1 : Kwdc u0 x) (h2 : ∀ w, Kwdc u0 w → KwdE u0 (f w)) : KwdE u0 (lt x f) := h2 x h1
theorem Kwd_ltv {x : β} {f : β → Option (MS × α)} (h2 : ∀ y, KwdE u0 (f y)) : KwdE u0 (lt x f) := h2 x
theorem Kwd_I {v : Int32} (h : Kwdc u0 u) (hk : 0 ≤ k) : Kwdc u0 (upI u k v) := h
theorem Kwd_L {v : Int64} (h : Kwdc u0 u) : Kwdc u0 (upL u k v) := h
theorem Kwd_J {v : Nat → Int64} (h : Kwdc u0 u) : Kwdc u0 (upJ u k v) := h
theorem Kwd_A {v : Nat → Int32} (h : Kwdc u0 u) (hk : ¬ (k = 92 ∨ k = 94 ∨ k = 95 ∨ k = 98)) : Kwdc u0 (upA u k v) := fun j hj => (upA_no (by omega)).trans (h j hj)
theorem Kwd_rf : Kwdc u u := fun _ _ => rfl
end
section
variable {u0 u : MS} {N : Nat}
theorem ywd_fb_M_term_0 {G : Unit} {v0 : Int32} {v1 : Int32} (h : Kwdc u0 u)  : KwdE u0 (fb_M_term_0 N G u v0 v1) := by
  unfold fb_M_term_0
  repeat' (first | with_reducible assumption | with_reducible refine Kwd_br ?_ ?_ | with_reducible refine Kwd_bnd ?_ (fun _ _ _ => ?_) | with_reducible refine Kwd_ck ?_ | with_reducible refine Kwd_ltm ?_ (fun _ _ => ?_) | with_reducible refine Kwd_some ?_ | with_reducible refine Kwd_bo (fun _ => ?_) | with_reducible refine Kwd_T ?_ (fun _ _ _ => ?_) | with_reducible refine Kwd_H ?_ (fun _ _ _ => ?_) (fun _ _ => ?_) | with_reducible refine Kwd_ltv (fun _ => ?_) | with_reducible refine Kwd_I ?_ (by decide) | with_reducible refine Kwd_A ?_ (by decide) | with_reducible refine Kwd_J ?_ | with_reducible refine Kwd_L ?_)
theorem ywd_fm_M_term {v0 : Int32} {v1 : Int32} (h : Kwdc u0 u)  : KwdE u0 (fm_M_term N u v0 v1) := by
  unfold fm_M_term
  exact ywd_fb_M_term_0 h
theorem ywd_fb_M_sortOf_0 {G : Unit} {v0 : Int64} (h : Kwdc u0 u)  : KwdE u0 (fb_M_sortOf_0 N G u v0) := by
  unfold fb_M_sortOf_0
  repeat' (first | with_reducible assumption | with_reducible refine Kwd_br ?_ ?_ | with_reducible refine Kwd_bnd ?_ (fun _ _ _ => ?_) | with_reducible refine Kwd_ck ?_ | with_reducible refine Kwd_ltm ?_ (fun _ _ => ?_) | with_reducible refine Kwd_some ?_ | with_reducible refine Kwd_bo (fun _ => ?_) | with_reducible refine Kwd_T ?_ (fun _ _ _ => ?_) | with_reducible refine Kwd_H ?_ (fun _ _ _ => ?_) (fun _ _ => ?_) | with_reducible refine Kwd_ltv (fun _ => ?_) | with_reducible refine Kwd_I ?_ (by decide) | with_reducible refine Kwd_A ?_ (by decide) | with_reducible refine Kwd_J ?_ | with_reducible refine Kwd_L ?_)
theorem ywd_fm_M_sortOf {v0 : Int64} (h : Kwdc u0 u)  : KwdE u0 (fm_M_sortOf N u v0) := by
  unfold fm_M_sortOf
  exact ywd_fb_M_sortOf_0 h
theorem ywd_fb_M_valueOf_0 {G : Unit} {v0 : Int64} (h : Kwdc u0 u)  : KwdE u0 (fb_M_valueOf_0 N G u v0) := by
  unfold fb_M_valueOf_0
  repeat' (first | with_reducible assumption | with_reducible refine Kwd_br ?_ ?_ | with_reducible refine Kwd_bnd ?_ (fun _ _ _ => ?_) | with_reducible refine Kwd_ck ?_ | with_reducible refine Kwd_ltm ?_ (fun _ _ => ?_) | with_reducible refine Kwd_some ?_ | with_reducible refine Kwd_bo (fun _ => ?_) | with_reducible refine Kwd_T ?_ (fun _ _ _ => ?_) | with_reducible refine Kwd_H ?_ (fun _ _ _ => ?_) (fun _ _ => ?_) | with_reducible refine Kwd_ltv (fun _ => ?_) | with_reducible refine Kwd_I ?_ (by decide) | with_reducible refine Kwd_A ?_ (by decide) | with_reducible refine Kwd_J ?_ | with_reducible refine Kwd_L ?_)
theorem ywd_fm_M_valueOf {v0 : Int64} (h : Kwdc u0 u)  : KwdE u0 (fm_M_valueOf N u v0) := by
  unfold fm_M_valueOf
  exact ywd_fb_M_valueOf_0 h
theorem ywd_fb_M_inHeap_26 {G : Unit} {t0 : Int32} (h : Kwdc u0 u)  : KwdE u0 (fb_M_inHeap_26 N G u t0) := by
  unfold fb_M_inHeap_26
  repeat' (first | with_reducible assumption | with_reducible refine Kwd_br ?_ ?_ | with_reducible refine Kwd_bnd ?_ (fun _ _ _ => ?_) | with_reducible refine Kwd_ck ?_ | with_reducible refine Kwd_ltm ?_ (fun _ _ => ?_) | with_reducible refine Kwd_some ?_ | with_reducible refine Kwd_bo (fun _ => ?_) | with_reducible refine Kwd_T ?_ (fun _ _ _ => ?_) | with_reducible refine Kwd_H ?_ (fun _ _ _ => ?_) (fun _ _ => ?_) | with_reducible refine Kwd_ltv (fun _ => ?_) | with_reducible refine Kwd_I ?_ (by decide) | with_reducible refine Kwd_A ?_ (by decide) | with_reducible refine Kwd_J ?_ | with_reducible refine Kwd_L ?_)
theorem ywd_fb_M_inHeap_21 {G : Unit} (h : Kwdc u0 u)  : KwdE u0 (fb_M_inHeap_21 N G u) := by
  unfold fb_M_inHeap_21
  repeat' (first | with_reducible assumption | with_reducible refine Kwd_br ?_ ?_ | with_reducible refine Kwd_bnd ?_ (fun _ _ _ => ?_) | with_reducible refine Kwd_ck ?_ | with_reducible refine Kwd_ltm ?_ (fun _ _ => ?_) | with_reducible refine Kwd_some ?_ | with_reducible refine Kwd_bo (fun _ => ?_) | with_reducible refine Kwd_T ?_ (fun _ _ _ => ?_) | with_reducible refine Kwd_H ?_ (fun _ _ _ => ?_) (fun _ _ => ?_) | with_reducible exact ywd_fb_M_inHeap_26 (by assumption) | with_reducible refine Kwd_ltv (fun _ => ?_) | with_reducible refine Kwd_I ?_ (by decide) | with_reducible refine Kwd_A ?_ (by decide) | with_reducible refine Kwd_J ?_ | with_reducible refine Kwd_L ?_)
theorem ywd_fb_M_inHeap_0 {G : Unit} {v0 : Int64} (h : Kwdc u0 u)  : KwdE u0 (fb_M_inHeap_0 N G u v0) := by
  unfold fb_M_inHeap_0
  repeat' (first | with_reducible assumption | with_reducible refine Kwd_br ?_ ?_ | with_reducible refine Kwd_bnd ?_ (fun _ _ _ => ?_) | with_reducible refine Kwd_ck ?_ | with_reducible refine Kwd_ltm ?_ (fun _ _ => ?_) | with_reducible refine Kwd_some ?_ | with_reducible refine Kwd_bo (fun _ => ?_) | with_reducible refine Kwd_T ?_ (fun _ _ _ => ?_) | with_reducible refine Kwd_H ?_ (fun _ _ _ => ?_) (fun _ _ => ?_) | with_reducible exact ywd_fb_M_inHeap_21 (by assumption) | with_reducible exact ywd_fb_M_inHeap_26 (by assumption) | with_reducible exact ywd_fm_M_sortOf (by assumption) | with_reducible refine Kwd_ltv (fun _ => ?_) | with_reducible refine Kwd_I ?_ (by decide) | with_reducible refine Kwd_A ?_ (by decide) | with_reducible refine Kwd_J ?_ | with_reducible refine Kwd_L ?_)
theorem ywd_fm_M_inHeap {v0 : Int64} (h : Kwdc u0 u)  : KwdE u0 (fm_M_inHeap N u v0) := by
  unfold fm_M_inHeap
  exact ywd_fb_M_inHeap_0 h
theorem ywd_fb_M_cell_0 {G : Unit} {v1 : Int32} {v2 : Int32} (h : Kwdc u0 u)  : KwdE u0 (fb_M_cell_0 N G u v1 v2) := by
  unfold fb_M_cell_0
  repeat' (first | with_reducible assumption | with_reducible refine Kwd_br ?_ ?_ | with_reducible refine Kwd_bnd ?_ (fun _ _ _ => ?_) | with_reducible refine Kwd_ck ?_ | with_reducible refine Kwd_ltm ?_ (fun _ _ => ?_) | with_reducible refine Kwd_some ?_ | with_reducible refine Kwd_bo (fun _ => ?_) | with_reducible refine Kwd_T ?_ (fun _ _ _ => ?_) | with_reducible refine Kwd_H ?_ (fun _ _ _ => ?_) (fun _ _ => ?_) | with_reducible refine Kwd_ltv (fun _ => ?_) | with_reducible refine Kwd_I ?_ (by decide) | with_reducible refine Kwd_A ?_ (by decide) | with_reducible refine Kwd_J ?_ | with_reducible refine Kwd_L ?_)
theorem ywd_fm_M_cell {v1 : Int32} {v2 : Int32} (h : Kwdc u0 u)  : KwdE u0 (fm_M_cell N u v1 v2) := by
  unfold fm_M_cell
  exact ywd_fb_M_cell_0 h
theorem ywd_fb_M_sizeOf_64 {G : Unit} {t0 : Int32} (h : Kwdc u0 u)  : KwdE u0 (fb_M_sizeOf_64 N G u t0) := by
  unfold fb_M_sizeOf_64
  repeat' (first | with_reducible assumption | with_reducible refine Kwd_br ?_ ?_ | with_reducible refine Kwd_bnd ?_ (fun _ _ _ => ?_) | with_reducible refine Kwd_ck ?_ | with_reducible refine Kwd_ltm ?_ (fun _ _ => ?_) | with_reducible refine Kwd_some ?_ | with_reducible refine Kwd_bo (fun _ => ?_) | with_reducible refine Kwd_T ?_ (fun _ _ _ => ?_) | with_reducible refine Kwd_H ?_ (fun _ _ _ => ?_) (fun _ _ => ?_) | with_reducible refine Kwd_ltv (fun _ => ?_) | with_reducible refine Kwd_I ?_ (by decide) | with_reducible refine Kwd_A ?_ (by decide) | with_reducible refine Kwd_J ?_ | with_reducible refine Kwd_L ?_)
theorem ywd_fb_M_sizeOf_0 {G : Unit} {v1 : Int32} {v2 : Int64} (h : Kwdc u0 u)  : KwdE u0 (fb_M_sizeOf_0 N G u v1 v2) := by
  unfold fb_M_sizeOf_0
  repeat' (first | with_reducible assumption | with_reducible refine Kwd_br ?_ ?_ | with_reducible refine Kwd_bnd ?_ (fun _ _ _ => ?_) | with_reducible refine Kwd_ck ?_ | with_reducible refine Kwd_ltm ?_ (fun _ _ => ?_) | with_reducible refine Kwd_some ?_ | with_reducible refine Kwd_bo (fun _ => ?_) | with_reducible refine Kwd_T ?_ (fun _ _ _ => ?_) | with_reducible refine Kwd_H ?_ (fun _ _ _ => ?_) (fun _ _ => ?_) | with_reducible exact ywd_fb_M_sizeOf_64 (by assumption) | with_reducible exact ywd_fm_M_valueOf (by assumption) | with_reducible exact ywd_fm_M_sortOf (by assumption) | with_reducible exact ywd_fm_M_cell (by assumption) | with_reducible refine Kwd_ltv (fun _ => ?_) | with_reducible refine Kwd_I ?_ (by decide) | with_reducible refine Kwd_A ?_ (by decide) | with_reducible refine Kwd_J ?_ | with_reducible refine Kwd_L ?_)
theorem ywd_fm_M_sizeOf {v1 : Int32} {v2 : Int64} (h : Kwdc u0 u)  : KwdE u0 (fm_M_sizeOf N u v1 v2) := by
  unfold fm_M_sizeOf
  exact ywd_fb_M_sizeOf_0 h
theorem ywd_fb_M_partsFrom_25 {G : Unit} {t0 : Int32} (h : Kwdc u0 u)  : KwdE u0 (fb_M_partsFrom_25 N G u t0) := by
  unfold fb_M_partsFrom_25
  repeat' (first | with_reducible assumption | with_reducible refine Kwd_br ?_ ?_ | with_reducible refine Kwd_bnd ?_ (fun _ _ _ => ?_) | with_reducible refine Kwd_ck ?_ | with_reducible refine Kwd_ltm ?_ (fun _ _ => ?_) | with_reducible refine Kwd_some ?_ | with_reducible refine Kwd_bo (fun _ => ?_) | with_reducible refine Kwd_T ?_ (fun _ _ _ => ?_) | with_reducible refine Kwd_H ?_ (fun _ _ _ => ?_) (fun _ _ => ?_) | with_reducible refine Kwd_ltv (fun _ => ?_) | with_reducible refine Kwd_I ?_ (by decide) | with_reducible refine Kwd_A ?_ (by decide) | with_reducible refine Kwd_J ?_ | with_reducible refine Kwd_L ?_)
theorem ywd_fb_M_partsFrom_0 {G : Unit} {v0 : Int64} (h : Kwdc u0 u)  : KwdE u0 (fb_M_partsFrom_0 N G u v0) := by
  unfold fb_M_partsFrom_0
  repeat' (first | with_reducible assumption | with_reducible refine Kwd_br ?_ ?_ | with_reducible refine Kwd_bnd ?_ (fun _ _ _ => ?_) | with_reducible refine Kwd_ck ?_ | with_reducible refine Kwd_ltm ?_ (fun _ _ => ?_) | with_reducible refine Kwd_some ?_ | with_reducible refine Kwd_bo (fun _ => ?_) | with_reducible refine Kwd_T ?_ (fun _ _ _ => ?_) | with_reducible refine Kwd_H ?_ (fun _ _ _ => ?_) (fun _ _ => ?_) | with_reducible exact ywd_fb_M_partsFrom_25 (by assumption) | with_reducible exact ywd_fm_M_sortOf (by assumption) | with_reducible refine Kwd_ltv (fun _ => ?_) | with_reducible refine Kwd_I ?_ (by decide) | with_reducible refine Kwd_A ?_ (by decide) | with_reducible refine Kwd_J ?_ | with_reducible refine Kwd_L ?_)
theorem ywd_fm_M_partsFrom {v0 : Int64} (h : Kwdc u0 u)  : KwdE u0 (fm_M_partsFrom N u v0) := by
  unfold fm_M_partsFrom
  exact ywd_fb_M_partsFrom_0 h
theorem ywd_fb_M_carried_124 {G : (MS → Int32 → Int64 → Int32 → Int32 → Int32 → Option (MS × Int64))} {v2 : Int64} {v4 : Int32} (h : Kwdc u0 u) (hG0 : ∀ (u : MS) a0 a1 a2 a3 a4, Kwdc u0 u → KwdE u0 (G u a0 a1 a2 a3 a4)) : KwdE u0 (fb_M_carried_124 N G u v2 v4) := by
  unfold fb_M_carried_124
  repeat' (first | with_reducible assumption | with_reducible refine Kwd_br ?_ ?_ | with_reducible refine Kwd_bnd ?_ (fun _ _ _ => ?_) | with_reducible refine Kwd_ck ?_ | with_reducible refine Kwd_ltm ?_ (fun _ _ => ?_) | with_reducible refine Kwd_some ?_ | with_reducible refine Kwd_bo (fun _ => ?_) | with_reducible refine Kwd_T ?_ (fun _ _ _ => ?_) | with_reducible refine Kwd_H ?_ (fun _ _ _ => ?_) (fun _ _ => ?_) | with_reducible exact hG0 _ _ _ _ _ _ (by assumption) | with_reducible refine Kwd_ltv (fun _ => ?_) | with_reducible refine Kwd_I ?_ (by decide) | with_reducible refine Kwd_A ?_ (by decide) | with_reducible refine Kwd_J ?_ | with_reducible refine Kwd_L ?_)
theorem ywd_fb_M_carried_48 {G : (MS → Int32 → Int64 → Int32 → Int32 → Int32 → Option (MS × Int64))} {v1 : Int32} {v2 : Int64} {v4 : Int32} {v5 : Int32} {v6 : Int32} (h : Kwdc u0 u) (hG0 : ∀ (u : MS) a0 a1 a2 a3 a4, Kwdc u0 u → KwdE u0 (G u a0 a1 a2 a3 a4)) : KwdE u0 (fb_M_carried_48 N G u v1 v2 v4 v5 v6) := by
  unfold fb_M_carried_48
  repeat' (first | with_reducible assumption | with_reducible refine Kwd_br ?_ ?_ | with_reducible refine Kwd_bnd ?_ (fun _ _ _ => ?_) | with_reducible refine Kwd_ck ?_ | with_reducible refine Kwd_ltm ?_ (fun _ _ => ?_) | with_reducible refine Kwd_some ?_ | with_reducible refine Kwd_bo (fun _ => ?_) | with_reducible refine Kwd_T ?_ (fun _ _ _ => ?_) | with_reducible refine Kwd_H ?_ (fun _ _ _ => ?_) (fun _ _ => ?_) | with_reducible exact ywd_fb_M_carried_124 (by assumption) hG0 | with_reducible exact ywd_fm_M_cell (by assumption) | with_reducible exact hG0 _ _ _ _ _ _ (by assumption) | with_reducible refine Kwd_ltv (fun _ => ?_) | with_reducible refine Kwd_I ?_ (by decide) | with_reducible refine Kwd_A ?_ (by decide) | with_reducible refine Kwd_J ?_ | with_reducible refine Kwd_L ?_)
theorem ywd_fb_M_carried_0 {G : (MS → Int32 → Int64 → Int32 → Int32 → Int32 → Option (MS × Int64))} {v1 : Int32} {v2 : Int64} (h : Kwdc u0 u) (hG0 : ∀ (u : MS) a0 a1 a2 a3 a4, Kwdc u0 u → KwdE u0 (G u a0 a1 a2 a3 a4)) : KwdE u0 (fb_M_carried_0 N G u v1 v2) := by
  unfold fb_M_carried_0
  repeat' (first | with_reducible assumption | with_reducible refine Kwd_br ?_ ?_ | with_reducible refine Kwd_bnd ?_ (fun _ _ _ => ?_) | with_reducible refine Kwd_ck ?_ | with_reducible refine Kwd_ltm ?_ (fun _ _ => ?_) | with_reducible refine Kwd_some ?_ | with_reducible refine Kwd_bo (fun _ => ?_) | with_reducible refine Kwd_T ?_ (fun _ _ _ => ?_) | with_reducible refine Kwd_H ?_ (fun _ _ _ => ?_) (fun _ _ => ?_) | with_reducible exact ywd_fb_M_carried_124 (by assumption) hG0 | with_reducible exact ywd_fm_M_valueOf (by assumption) | with_reducible exact ywd_fm_M_inHeap (by assumption) | with_reducible exact ywd_fm_M_sizeOf (by assumption) | with_reducible exact hG0 _ _ _ _ _ _ (by assumption) | with_reducible refine Kwd_ltv (fun _ => ?_) | with_reducible refine Kwd_I ?_ (by decide) | with_reducible refine Kwd_A ?_ (by decide) | with_reducible refine Kwd_J ?_ | with_reducible refine Kwd_L ?_)
theorem ywd_gg_M_carried  (n : Nat) : (∀ (u : MS) a0 a1 a2 a3 a4, Kwdc u0 u → KwdE u0 ((gg_M_carried N n) u a0 a1 a2 a3 a4)) := by
  induction n with
  | zero => exact fun _ _ _ _ _ _ _ => Kwd_none
  | succ n ih => exact fun _ _ _ _ _ _ h => ywd_fb_M_carried_48 (N := N) h ih
theorem ywd_fm_M_carried {v1 : Int32} {v2 : Int64} (h : Kwdc u0 u)  : KwdE u0 (fm_M_carried N u v1 v2) := by
  unfold fm_M_carried
  exact ywd_fb_M_carried_0 h ((ywd_gg_M_carried N))
theorem ywd_fb_M_clear_337 {G : (MS → Int32 → Int32 → Option (MS × Unit)) × (MS → Int32 → Int32 → Option (MS × Unit)) × (MS → Int32 → Int32 → Option (MS × Unit)) × (MS → Int32 → Int32 → Option (MS × Unit)) × (MS → Int32 → Int32 → Option (MS × Unit)) × (MS → Int32 → Int32 → Int32 → Int32 → Int32 → Option (MS × Unit)) × (MS → Int32 → Int32 → Option (MS × Unit))} {v1 : Int32} {v2 : Int32} (h : Kwdc u0 u) (hG0 : ∀ (u : MS) a0 a1, Kwdc u0 u → KwdE u0 (G.1 u a0 a1)) (hG1 : ∀ (u : MS) a0 a1, Kwdc u0 u → KwdE u0 (G.2.1 u a0 a1)) (hG2 : ∀ (u : MS) a0 a1, Kwdc u0 u → KwdE u0 (G.2.2.1 u a0 a1)) (hG3 : ∀ (u : MS) a0 a1, Kwdc u0 u → KwdE u0 (G.2.2.2.1 u a0 a1)) (hG4 : ∀ (u : MS) a0 a1, Kwdc u0 u → KwdE u0 (G.2.2.2.2.1 u a0 a1)) (hG5 : ∀ (u : MS) a0 a1 a2 a3 a4, Kwdc u0 u → KwdE u0 (G.2.2.2.2.2.1 u a0 a1 a2 a3 a4)) (hG6 : ∀ (u : MS) a0 a1, Kwdc u0 u → KwdE u0 (G.2.2.2.2.2.2 u a0 a1)) : KwdE u0 (fb_M_clear_337 N G u v1 v2) := by
  unfold fb_M_clear_337
  repeat' (first | with_reducible assumption | with_reducible refine Kwd_br ?_ ?_ | with_reducible refine Kwd_bnd ?_ (fun _ _ _ => ?_) | with_reducible refine Kwd_ck ?_ | with_reducible refine Kwd_ltm ?_ (fun _ _ => ?_) | with_reducible refine Kwd_some ?_ | with_reducible refine Kwd_bo (fun _ => ?_) | with_reducible refine Kwd_T ?_ (fun _ _ _ => ?_) | with_reducible refine Kwd_H ?_ (fun _ _ _ => ?_) (fun _ _ => ?_) | with_reducible exact hG0 _ _ _ (by assumption) | with_reducible exact hG1 _ _ _ (by assumption) | with_reducible exact hG2 _ _ _ (by assumption) | with_reducible exact hG3 _ _ _ (by assumption) | with_reducible exact hG4 _ _ _ (by assumption) | with_reducible exact hG5 _ _ _ _ _ _ (by assumption) | with_reducible exact hG6 _ _ _ (by assumption) | with_reducible refine Kwd_ltv (fun _ => ?_) | with_reducible refine Kwd_I ?_ (by decide) | with_reducible refine Kwd_A ?_ (by decide) | with_reducible refine Kwd_J ?_ | with_reducible refine Kwd_L ?_)
theorem ywd_fb_M_clear_281 {G : (MS → Int32 → Int32 → Option (MS × Unit)) × (MS → Int32 → Int32 → Option (MS × Unit)) × (MS → Int32 → Int32 → Option (MS × Unit)) × (MS → Int32 → Int32 → Option (MS × Unit)) × (MS → Int32 → Int32 → Option (MS × Unit)) × (MS → Int32 → Int32 → Int32 → Int32 → Int32 → Option (MS × Unit)) × (MS → Int32 → Int32 → Option (MS × Unit))} {v1 : Int32} {v2 : Int32} {v5 : Int32} {v7 : Int32} {v8 : Int32} (h : Kwdc u0 u) (hG0 : ∀ (u : MS) a0 a1, Kwdc u0 u → KwdE u0 (G.1 u a0 a1)) (hG1 : ∀ (u : MS) a0 a1, Kwdc u0 u → KwdE u0 (G.2.1 u a0 a1)) (hG2 : ∀ (u : MS) a0 a1, Kwdc u0 u → KwdE u0 (G.2.2.1 u a0 a1)) (hG3 : ∀ (u : MS) a0 a1, Kwdc u0 u → KwdE u0 (G.2.2.2.1 u a0 a1)) (hG4 : ∀ (u : MS) a0 a1, Kwdc u0 u → KwdE u0 (G.2.2.2.2.1 u a0 a1)) (hG5 : ∀ (u : MS) a0 a1 a2 a3 a4, Kwdc u0 u → KwdE u0 (G.2.2.2.2.2.1 u a0 a1 a2 a3 a4)) (hG6 : ∀ (u : MS) a0 a1, Kwdc u0 u → KwdE u0 (G.2.2.2.2.2.2 u a0 a1)) : KwdE u0 (fb_M_clear_281 N G u v1 v2 v5 v7 v8) := by
  unfold fb_M_clear_281
  repeat' (first | with_reducible assumption | with_reducible refine Kwd_br ?_ ?_ | with_reducible refine Kwd_bnd ?_ (fun _ _ _ => ?_) | with_reducible refine Kwd_ck ?_ | with_reducible refine Kwd_ltm ?_ (fun _ _ => ?_) | with_reducible refine Kwd_some ?_ | with_reducible refine Kwd_bo (fun _ => ?_) | with_reducible refine Kwd_T ?_ (fun _ _ _ => ?_) | with_reducible refine Kwd_H ?_ (fun _ _ _ => ?_) (fun _ _ => ?_) | with_reducible exact ywd_fm_M_carried (by assumption) | with_reducible exact hG0 _ _ _ (by assumption) | with_reducible exact hG1 _ _ _ (by assumption) | with_reducible exact hG2 _ _ _ (by assumption) | with_reducible exact hG3 _ _ _ (by assumption) | with_reducible exact hG4 _ _ _ (by assumption) | with_reducible exact hG5 _ _ _ _ _ _ (by assumption) | with_reducible exact hG6 _ _ _ (by assumption) | with_reducible refine Kwd_ltv (fun _ => ?_) | with_reducible refine Kwd_I ?_ (by decide) | with_reducible refine Kwd_A ?_ (by decide) | with_reducible refine Kwd_J ?_ | with_reducible refine Kwd_L ?_)
theorem ywd_fb_M_clear_273 {G : (MS → Int32 → Int32 → Option (MS × Unit)) × (MS → Int32 → Int32 → Option (MS × Unit)) × (MS → Int32 → Int32 → Option (MS × Unit)) × (MS → Int32 → Int32 → Option (MS × Unit)) × (MS → Int32 → Int32 → Option (MS × Unit)) × (MS → Int32 → Int32 → Int32 → Int32 → Int32 → Option (MS × Unit)) × (MS → Int32 → Int32 → Option (MS × Unit))} {v1 : Int32} {v2 : Int32} {v3 : Int64} {v5 : Int32} {t0 : Int32} (h : Kwdc u0 u) (hG0 : ∀ (u : MS) a0 a1, Kwdc u0 u → KwdE u0 (G.1 u a0 a1)) (hG1 : ∀ (u : MS) a0 a1, Kwdc u0 u → KwdE u0 (G.2.1 u a0 a1)) (hG2 : ∀ (u : MS) a0 a1, Kwdc u0 u → KwdE u0 (G.2.2.1 u a0 a1)) (hG3 : ∀ (u : MS) a0 a1, Kwdc u0 u → KwdE u0 (G.2.2.2.1 u a0 a1)) (hG4 : ∀ (u : MS) a0 a1, Kwdc u0 u → KwdE u0 (G.2.2.2.2.1 u a0 a1)) (hG5 : ∀ (u : MS) a0 a1 a2 a3 a4, Kwdc u0 u → KwdE u0 (G.2.2.2.2.2.1 u a0 a1 a2 a3 a4)) (hG6 : ∀ (u : MS) a0 a1, Kwdc u0 u → KwdE u0 (G.2.2.2.2.2.2 u a0 a1)) : KwdE u0 (fb_M_clear_273 N G u v1 v2 v3 v5 t0) := by
  unfold fb_M_clear_273
  repeat' (first | with_reducible assumption | with_reducible refine Kwd_br ?_ ?_ | with_reducible refine Kwd_bnd ?_ (fun _ _ _ => ?_) | with_reducible refine Kwd_ck ?_ | with_reducible refine Kwd_ltm ?_ (fun _ _ => ?_) | with_reducible refine Kwd_some ?_ | with_reducible refine Kwd_bo (fun _ => ?_) | with_reducible refine Kwd_T ?_ (fun _ _ _ => ?_) | with_reducible refine Kwd_H ?_ (fun _ _ _ => ?_) (fun _ _ => ?_) | with_reducible exact ywd_fm_M_partsFrom (by assumption) | with_reducible exact hG0 _ _ _ (by assumption) | with_reducible exact hG1 _ _ _ (by assumption) | with_reducible exact hG2 _ _ _ (by assumption) | with_reducible exact hG3 _ _ _ (by assumption) | with_reducible exact hG4 _ _ _ (by assumption) | with_reducible exact hG5 _ _ _ _ _ _ (by assumption) | with_reducible exact hG6 _ _ _ (by assumption) | with_reducible refine Kwd_ltv (fun _ => ?_) | with_reducible refine Kwd_I ?_ (by decide) | with_reducible refine Kwd_A ?_ (by decide) | with_reducible refine Kwd_J ?_ | with_reducible refine Kwd_L ?_)
theorem ywd_fb_M_clear_204 {G : (MS → Int32 → Int32 → Option (MS × Unit)) × (MS → Int32 → Int32 → Option (MS × Unit)) × (MS → Int32 → Int32 → Option (MS × Unit)) × (MS → Int32 → Int32 → Option (MS × Unit)) × (MS → Int32 → Int32 → Option (MS × Unit)) × (MS → Int32 → Int32 → Int32 → Int32 → Int32 → Option (MS × Unit)) × (MS → Int32 → Int32 → Option (MS × Unit))} {v1 : Int32} {v2 : Int32} (h : Kwdc u0 u) (hG0 : ∀ (u : MS) a0 a1, Kwdc u0 u → KwdE u0 (G.1 u a0 a1)) (hG1 : ∀ (u : MS) a0 a1, Kwdc u0 u → KwdE u0 (G.2.1 u a0 a1)) (hG2 : ∀ (u : MS) a0 a1, Kwdc u0 u → KwdE u0 (G.2.2.1 u a0 a1)) (hG3 : ∀ (u : MS) a0 a1, Kwdc u0 u → KwdE u0 (G.2.2.2.1 u a0 a1)) (hG4 : ∀ (u : MS) a0 a1, Kwdc u0 u → KwdE u0 (G.2.2.2.2.1 u a0 a1)) (hG5 : ∀ (u : MS) a0 a1 a2 a3 a4, Kwdc u0 u → KwdE u0 (G.2.2.2.2.2.1 u a0 a1 a2 a3 a4)) (hG6 : ∀ (u : MS) a0 a1, Kwdc u0 u → KwdE u0 (G.2.2.2.2.2.2 u a0 a1)) : KwdE u0 (fb_M_clear_204 N G u v1 v2) := by
  unfold fb_M_clear_204
  repeat' (first | with_reducible assumption | with_reducible refine Kwd_br ?_ ?_ | with_reducible refine Kwd_bnd ?_ (fun _ _ _ => ?_) | with_reducible refine Kwd_ck ?_ | with_reducible refine Kwd_ltm ?_ (fun _ _ => ?_) | with_reducible refine Kwd_some ?_ | with_reducible refine Kwd_bo (fun _ => ?_) | with_reducible refine Kwd_T ?_ (fun _ _ _ => ?_) | with_reducible refine Kwd_H ?_ (fun _ _ _ => ?_) (fun _ _ => ?_) | with_reducible exact ywd_fb_M_clear_273 (by assumption) hG0 hG1 hG2 hG3 hG4 hG5 hG6 | with_reducible exact ywd_fm_M_valueOf (by assumption) | with_reducible exact ywd_fm_M_sortOf (by assumption) | with_reducible exact hG0 _ _ _ (by assumption) | with_reducible exact hG1 _ _ _ (by assumption) | with_reducible exact hG2 _ _ _ (by assumption) | with_reducible exact hG3 _ _ _ (by assumption) | with_reducible exact hG4 _ _ _ (by assumption) | with_reducible exact hG5 _ _ _ _ _ _ (by assumption) | with_reducible exact hG6 _ _ _ (by assumption) | with_reducible refine Kwd_ltv (fun _ => ?_) | with_reducible refine Kwd_I ?_ (by decide) | with_reducible refine Kwd_A ?_ (by decide) | with_reducible refine Kwd_J ?_ | with_reducible refine Kwd_L ?_)
theorem ywd_fb_M_clear_202 {G : (MS → Int32 → Int32 → Option (MS × Unit)) × (MS → Int32 → Int32 → Option (MS × Unit)) × (MS → Int32 → Int32 → Option (MS × Unit)) × (MS → Int32 → Int32 → Option (MS × Unit)) × (MS → Int32 → Int32 → Option (MS × Unit)) × (MS → Int32 → Int32 → Int32 → Int32 → Int32 → Option (MS × Unit)) × (MS → Int32 → Int32 → Option (MS × Unit))} {v1 : Int32} (h : Kwdc u0 u) (hG0 : ∀ (u : MS) a0 a1, Kwdc u0 u → KwdE u0 (G.1 u a0 a1)) (hG1 : ∀ (u : MS) a0 a1, Kwdc u0 u → KwdE u0 (G.2.1 u a0 a1)) (hG2 : ∀ (u : MS) a0 a1, Kwdc u0 u → KwdE u0 (G.2.2.1 u a0 a1)) (hG3 : ∀ (u : MS) a0 a1, Kwdc u0 u → KwdE u0 (G.2.2.2.1 u a0 a1)) (hG4 : ∀ (u : MS) a0 a1, Kwdc u0 u → KwdE u0 (G.2.2.2.2.1 u a0 a1)) (hG5 : ∀ (u : MS) a0 a1 a2 a3 a4, Kwdc u0 u → KwdE u0 (G.2.2.2.2.2.1 u a0 a1 a2 a3 a4)) (hG6 : ∀ (u : MS) a0 a1, Kwdc u0 u → KwdE u0 (G.2.2.2.2.2.2 u a0 a1)) : KwdE u0 (fb_M_clear_202 N G u v1) := by
  unfold fb_M_clear_202
  repeat' (first | with_reducible assumption | with_reducible refine Kwd_br ?_ ?_ | with_reducible refine Kwd_bnd ?_ (fun _ _ _ => ?_) | with_reducible refine Kwd_ck ?_ | with_reducible refine Kwd_ltm ?_ (fun _ _ => ?_) | with_reducible refine Kwd_some ?_ | with_reducible refine Kwd_bo (fun _ => ?_) | with_reducible refine Kwd_T ?_ (fun _ _ _ => ?_) | with_reducible refine Kwd_H ?_ (fun _ _ _ => ?_) (fun _ _ => ?_) | with_reducible exact hG0 _ _ _ (by assumption) | with_reducible exact hG1 _ _ _ (by assumption) | with_reducible exact hG2 _ _ _ (by assumption) | with_reducible exact hG3 _ _ _ (by assumption) | with_reducible exact hG4 _ _ _ (by assumption) | with_reducible exact hG5 _ _ _ _ _ _ (by assumption) | with_reducible exact hG6 _ _ _ (by assumption) | with_reducible refine Kwd_ltv (fun _ => ?_) | with_reducible refine Kwd_I ?_ (by decide) | with_reducible refine Kwd_A ?_ (by decide) | with_reducible refine Kwd_J ?_ | with_reducible refine Kwd_L ?_)
theorem ywd_fb_M_clear_138 {G : (MS → Int32 → Int32 → Option (MS × Unit)) × (MS → Int32 → Int32 → Option (MS × Unit)) × (MS → Int32 → Int32 → Option (MS × Unit)) × (MS → Int32 → Int32 → Option (MS × Unit)) × (MS → Int32 → Int32 → Option (MS × Unit)) × (MS → Int32 → Int32 → Int32 → Int32 → Int32 → Option (MS × Unit)) × (MS → Int32 → Int32 → Option (MS × Unit))} {v1 : Int32} {v2 : Int32} (h : Kwdc u0 u) (hG0 : ∀ (u : MS) a0 a1, Kwdc u0 u → KwdE u0 (G.1 u a0 a1)) (hG1 : ∀ (u : MS) a0 a1, Kwdc u0 u → KwdE u0 (G.2.1 u a0 a1)) (hG2 : ∀ (u : MS) a0 a1, Kwdc u0 u → KwdE u0 (G.2.2.1 u a0 a1)) (hG3 : ∀ (u : MS) a0 a1, Kwdc u0 u → KwdE u0 (G.2.2.2.1 u a0 a1)) (hG4 : ∀ (u : MS) a0 a1, Kwdc u0 u → KwdE u0 (G.2.2.2.2.1 u a0 a1)) (hG5 : ∀ (u : MS) a0 a1 a2 a3 a4, Kwdc u0 u → KwdE u0 (G.2.2.2.2.2.1 u a0 a1 a2 a3 a4)) (hG6 : ∀ (u : MS) a0 a1, Kwdc u0 u → KwdE u0 (G.2.2.2.2.2.2 u a0 a1)) : KwdE u0 (fb_M_clear_138 N G u v1 v2) := by
  unfold fb_M_clear_138
  repeat' (first | with_reducible assumption | with_reducible refine Kwd_br ?_ ?_ | with_reducible refine Kwd_bnd ?_ (fun _ _ _ => ?_) | with_reducible refine Kwd_ck ?_ | with_reducible refine Kwd_ltm ?_ (fun _ _ => ?_) | with_reducible refine Kwd_some ?_ | with_reducible refine Kwd_bo (fun _ => ?_) | with_reducible refine Kwd_T ?_ (fun _ _ _ => ?_) | with_reducible refine Kwd_H ?_ (fun _ _ _ => ?_) (fun _ _ => ?_) | with_reducible exact ywd_fb_M_clear_202 (by assumption) hG0 hG1 hG2 hG3 hG4 hG5 hG6 | with_reducible exact ywd_fm_M_carried (by assumption) | with_reducible exact hG0 _ _ _ (by assumption) | with_reducible exact hG1 _ _ _ (by assumption) | with_reducible exact hG2 _ _ _ (by assumption) | with_reducible exact hG3 _ _ _ (by assumption) | with_reducible exact hG4 _ _ _ (by assumption) | with_reducible exact hG5 _ _ _ _ _ _ (by assumption) | with_reducible exact hG6 _ _ _ (by assumption) | with_reducible refine Kwd_ltv (fun _ => ?_) | with_reducible refine Kwd_I ?_ (by decide) | with_reducible refine Kwd_A ?_ (by decide) | with_reducible refine Kwd_J ?_ | with_reducible refine Kwd_L ?_)
theorem ywd_fb_M_clear_91 {G : (MS → Int32 → Int32 → Option (MS × Unit)) × (MS → Int32 → Int32 → Option (MS × Unit)) × (MS → Int32 → Int32 → Option (MS × Unit)) × (MS → Int32 → Int32 → Option (MS × Unit)) × (MS → Int32 → Int32 → Option (MS × Unit)) × (MS → Int32 → Int32 → Int32 → Int32 → Int32 → Option (MS × Unit)) × (MS → Int32 → Int32 → Option (MS × Unit))} {v1 : Int32} {v2 : Int32} (h : Kwdc u0 u) (hG0 : ∀ (u : MS) a0 a1, Kwdc u0 u → KwdE u0 (G.1 u a0 a1)) (hG1 : ∀ (u : MS) a0 a1, Kwdc u0 u → KwdE u0 (G.2.1 u a0 a1)) (hG2 : ∀ (u : MS) a0 a1, Kwdc u0 u → KwdE u0 (G.2.2.1 u a0 a1)) (hG3 : ∀ (u : MS) a0 a1, Kwdc u0 u → KwdE u0 (G.2.2.2.1 u a0 a1)) (hG4 : ∀ (u : MS) a0 a1, Kwdc u0 u → KwdE u0 (G.2.2.2.2.1 u a0 a1)) (hG5 : ∀ (u : MS) a0 a1 a2 a3 a4, Kwdc u0 u → KwdE u0 (G.2.2.2.2.2.1 u a0 a1 a2 a3 a4)) (hG6 : ∀ (u : MS) a0 a1, Kwdc u0 u → KwdE u0 (G.2.2.2.2.2.2 u a0 a1)) : KwdE u0 (fb_M_clear_91 N G u v1 v2) := by
  unfold fb_M_clear_91
  repeat' (first | with_reducible assumption | with_reducible refine Kwd_br ?_ ?_ | with_reducible refine Kwd_bnd ?_ (fun _ _ _ => ?_) | with_reducible refine Kwd_ck ?_ | with_reducible refine Kwd_ltm ?_ (fun _ _ => ?_) | with_reducible refine Kwd_some ?_ | with_reducible refine Kwd_bo (fun _ => ?_) | with_reducible refine Kwd_T ?_ (fun _ _ _ => ?_) | with_reducible refine Kwd_H ?_ (fun _ _ _ => ?_) (fun _ _ => ?_) | with_reducible exact ywd_fm_M_carried (by assumption) | with_reducible exact hG0 _ _ _ (by assumption) | with_reducible exact hG1 _ _ _ (by assumption) | with_reducible exact hG2 _ _ _ (by assumption) | with_reducible exact hG3 _ _ _ (by assumption) | with_reducible exact hG4 _ _ _ (by assumption) | with_reducible exact hG5 _ _ _ _ _ _ (by assumption) | with_reducible exact hG6 _ _ _ (by assumption) | with_reducible refine Kwd_ltv (fun _ => ?_) | with_reducible refine Kwd_I ?_ (by decide) | with_reducible refine Kwd_A ?_ (by decide) | with_reducible refine Kwd_J ?_ | with_reducible refine Kwd_L ?_)
theorem ywd_fb_M_clear_44 {G : (MS → Int32 → Int32 → Option (MS × Unit)) × (MS → Int32 → Int32 → Option (MS × Unit)) × (MS → Int32 → Int32 → Option (MS × Unit)) × (MS → Int32 → Int32 → Option (MS × Unit)) × (MS → Int32 → Int32 → Option (MS × Unit)) × (MS → Int32 → Int32 → Int32 → Int32 → Int32 → Option (MS × Unit)) × (MS → Int32 → Int32 → Option (MS × Unit))} {v1 : Int32} {v2 : Int32} (h : Kwdc u0 u) (hG0 : ∀ (u : MS) a0 a1, Kwdc u0 u → KwdE u0 (G.1 u a0 a1)) (hG1 : ∀ (u : MS) a0 a1, Kwdc u0 u → KwdE u0 (G.2.1 u a0 a1)) (hG2 : ∀ (u : MS) a0 a1, Kwdc u0 u → KwdE u0 (G.2.2.1 u a0 a1)) (hG3 : ∀ (u : MS) a0 a1, Kwdc u0 u → KwdE u0 (G.2.2.2.1 u a0 a1)) (hG4 : ∀ (u : MS) a0 a1, Kwdc u0 u → KwdE u0 (G.2.2.2.2.1 u a0 a1)) (hG5 : ∀ (u : MS) a0 a1 a2 a3 a4, Kwdc u0 u → KwdE u0 (G.2.2.2.2.2.1 u a0 a1 a2 a3 a4)) (hG6 : ∀ (u : MS) a0 a1, Kwdc u0 u → KwdE u0 (G.2.2.2.2.2.2 u a0 a1)) : KwdE u0 (fb_M_clear_44 N G u v1 v2) := by
  unfold fb_M_clear_44
  repeat' (first | with_reducible assumption | with_reducible refine Kwd_br ?_ ?_ | with_reducible refine Kwd_bnd ?_ (fun _ _ _ => ?_) | with_reducible refine Kwd_ck ?_ | with_reducible refine Kwd_ltm ?_ (fun _ _ => ?_) | with_reducible refine Kwd_some ?_ | with_reducible refine Kwd_bo (fun _ => ?_) | with_reducible refine Kwd_T ?_ (fun _ _ _ => ?_) | with_reducible refine Kwd_H ?_ (fun _ _ _ => ?_) (fun _ _ => ?_) | with_reducible exact ywd_fm_M_carried (by assumption) | with_reducible exact hG0 _ _ _ (by assumption) | with_reducible exact hG1 _ _ _ (by assumption) | with_reducible exact hG2 _ _ _ (by assumption) | with_reducible exact hG3 _ _ _ (by assumption) | with_reducible exact hG4 _ _ _ (by assumption) | with_reducible exact hG5 _ _ _ _ _ _ (by assumption) | with_reducible exact hG6 _ _ _ (by assumption) | with_reducible refine Kwd_ltv (fun _ => ?_) | with_reducible refine Kwd_I ?_ (by decide) | with_reducible refine Kwd_A ?_ (by decide) | with_reducible refine Kwd_J ?_ | with_reducible refine Kwd_L ?_)
theorem ywd_fb_M_clear_22 {G : (MS → Int32 → Int32 → Option (MS × Unit)) × (MS → Int32 → Int32 → Option (MS × Unit)) × (MS → Int32 → Int32 → Option (MS × Unit)) × (MS → Int32 → Int32 → Option (MS × Unit)) × (MS → Int32 → Int32 → Option (MS × Unit)) × (MS → Int32 → Int32 → Int32 → Int32 → Int32 → Option (MS × Unit)) × (MS → Int32 → Int32 → Option (MS × Unit))} {v1 : Int32} {v2 : Int32} (h : Kwdc u0 u) (hG0 : ∀ (u : MS) a0 a1, Kwdc u0 u → KwdE u0 (G.1 u a0 a1)) (hG1 : ∀ (u : MS) a0 a1, Kwdc u0 u → KwdE u0 (G.2.1 u a0 a1)) (hG2 : ∀ (u : MS) a0 a1, Kwdc u0 u → KwdE u0 (G.2.2.1 u a0 a1)) (hG3 : ∀ (u : MS) a0 a1, Kwdc u0 u → KwdE u0 (G.2.2.2.1 u a0 a1)) (hG4 : ∀ (u : MS) a0 a1, Kwdc u0 u → KwdE u0 (G.2.2.2.2.1 u a0 a1)) (hG5 : ∀ (u : MS) a0 a1 a2 a3 a4, Kwdc u0 u → KwdE u0 (G.2.2.2.2.2.1 u a0 a1 a2 a3 a4)) (hG6 : ∀ (u : MS) a0 a1, Kwdc u0 u → KwdE u0 (G.2.2.2.2.2.2 u a0 a1)) : KwdE u0 (fb_M_clear_22 N G u v1 v2) := by
  unfold fb_M_clear_22
  repeat' (first | with_reducible assumption | with_reducible refine Kwd_br ?_ ?_ | with_reducible refine Kwd_bnd ?_ (fun _ _ _ => ?_) | with_reducible refine Kwd_ck ?_ | with_reducible refine Kwd_ltm ?_ (fun _ _ => ?_) | with_reducible refine Kwd_some ?_ | with_reducible refine Kwd_bo (fun _ => ?_) | with_reducible refine Kwd_T ?_ (fun _ _ _ => ?_) | with_reducible refine Kwd_H ?_ (fun _ _ _ => ?_) (fun _ _ => ?_) | with_reducible exact hG0 _ _ _ (by assumption) | with_reducible exact hG1 _ _ _ (by assumption) | with_reducible exact hG2 _ _ _ (by assumption) | with_reducible exact hG3 _ _ _ (by assumption) | with_reducible exact hG4 _ _ _ (by assumption) | with_reducible exact hG5 _ _ _ _ _ _ (by assumption) | with_reducible exact hG6 _ _ _ (by assumption) | with_reducible refine Kwd_ltv (fun _ => ?_) | with_reducible refine Kwd_I ?_ (by decide) | with_reducible refine Kwd_A ?_ (by decide) | with_reducible refine Kwd_J ?_ | with_reducible refine Kwd_L ?_)
theorem ywd_fb_M_clear_0 {G : (MS → Int32 → Int32 → Option (MS × Unit)) × (MS → Int32 → Int32 → Option (MS × Unit)) × (MS → Int32 → Int32 → Option (MS × Unit)) × (MS → Int32 → Int32 → Option (MS × Unit)) × (MS → Int32 → Int32 → Option (MS × Unit)) × (MS → Int32 → Int32 → Int32 → Int32 → Int32 → Option (MS × Unit)) × (MS → Int32 → Int32 → Option (MS × Unit))} {v1 : Int32} (h : Kwdc u0 u) (hG0 : ∀ (u : MS) a0 a1, Kwdc u0 u → KwdE u0 (G.1 u a0 a1)) (hG1 : ∀ (u : MS) a0 a1, Kwdc u0 u → KwdE u0 (G.2.1 u a0 a1)) (hG2 : ∀ (u : MS) a0 a1, Kwdc u0 u → KwdE u0 (G.2.2.1 u a0 a1)) (hG3 : ∀ (u : MS) a0 a1, Kwdc u0 u → KwdE u0 (G.2.2.2.1 u a0 a1)) (hG4 : ∀ (u : MS) a0 a1, Kwdc u0 u → KwdE u0 (G.2.2.2.2.1 u a0 a1)) (hG5 : ∀ (u : MS) a0 a1 a2 a3 a4, Kwdc u0 u → KwdE u0 (G.2.2.2.2.2.1 u a0 a1 a2 a3 a4)) (hG6 : ∀ (u : MS) a0 a1, Kwdc u0 u → KwdE u0 (G.2.2.2.2.2.2 u a0 a1)) : KwdE u0 (fb_M_clear_0 N G u v1) := by
  unfold fb_M_clear_0
  repeat' (first | with_reducible assumption | with_reducible refine Kwd_br ?_ ?_ | with_reducible refine Kwd_bnd ?_ (fun _ _ _ => ?_) | with_reducible refine Kwd_ck ?_ | with_reducible refine Kwd_ltm ?_ (fun _ _ => ?_) | with_reducible refine Kwd_some ?_ | with_reducible refine Kwd_bo (fun _ => ?_) | with_reducible refine Kwd_T ?_ (fun _ _ _ => ?_) | with_reducible refine Kwd_H ?_ (fun _ _ _ => ?_) (fun _ _ => ?_) | with_reducible exact hG0 _ _ _ (by assumption) | with_reducible exact hG1 _ _ _ (by assumption) | with_reducible exact hG2 _ _ _ (by assumption) | with_reducible exact hG3 _ _ _ (by assumption) | with_reducible exact hG4 _ _ _ (by assumption) | with_reducible exact hG5 _ _ _ _ _ _ (by assumption) | with_reducible exact hG6 _ _ _ (by assumption) | with_reducible refine Kwd_ltv (fun _ => ?_) | with_reducible refine Kwd_I ?_ (by decide) | with_reducible refine Kwd_A ?_ (by decide) | with_reducible refine Kwd_J ?_ | with_reducible refine Kwd_L ?_)
theorem ywd_gg_M_clear  (n : Nat) : (∀ (u : MS) a0 a1, Kwdc u0 u → KwdE u0 ((gg_M_clear N n).1 u a0 a1)) ∧ (∀ (u : MS) a0 a1, Kwdc u0 u → KwdE u0 ((gg_M_clear N n).2.1 u a0 a1)) ∧ (∀ (u : MS) a0 a1, Kwdc u0 u → KwdE u0 ((gg_M_clear N n).2.2.1 u a0 a1)) ∧ (∀ (u : MS) a0 a1, Kwdc u0 u → KwdE u0 ((gg_M_clear N n).2.2.2.1 u a0 a1)) ∧ (∀ (u : MS) a0 a1, Kwdc u0 u → KwdE u0 ((gg_M_clear N n).2.2.2.2.1 u a0 a1)) ∧ (∀ (u : MS) a0 a1 a2 a3 a4, Kwdc u0 u → KwdE u0 ((gg_M_clear N n).2.2.2.2.2.1 u a0 a1 a2 a3 a4)) ∧ (∀ (u : MS) a0 a1, Kwdc u0 u → KwdE u0 ((gg_M_clear N n).2.2.2.2.2.2 u a0 a1)) := by
  induction n with
  | zero => exact ⟨fun _ _ _ _ => Kwd_none, fun _ _ _ _ => Kwd_none, fun _ _ _ _ => Kwd_none, fun _ _ _ _ => Kwd_none, fun _ _ _ _ => Kwd_none, fun _ _ _ _ _ _ _ => Kwd_none, fun _ _ _ _ => Kwd_none⟩
  | succ n ih => exact ⟨fun _ _ _ h => ywd_fb_M_clear_22 (N := N) h ih.1 ih.2.1 ih.2.2.1 ih.2.2.2.1 ih.2.2.2.2.1 ih.2.2.2.2.2.1 ih.2.2.2.2.2.2, fun _ _ _ h => ywd_fb_M_clear_44 (N := N) h ih.1 ih.2.1 ih.2.2.1 ih.2.2.2.1 ih.2.2.2.2.1 ih.2.2.2.2.2.1 ih.2.2.2.2.2.2, fun _ _ _ h => ywd_fb_M_clear_91 (N := N) h ih.1 ih.2.1 ih.2.2.1 ih.2.2.2.1 ih.2.2.2.2.1 ih.2.2.2.2.2.1 ih.2.2.2.2.2.2, fun _ _ _ h => ywd_fb_M_clear_138 (N := N) h ih.1 ih.2.1 ih.2.2.1 ih.2.2.2.1 ih.2.2.2.2.1 ih.2.2.2.2.2.1 ih.2.2.2.2.2.2, fun _ _ _ h => ywd_fb_M_clear_204 (N := N) h ih.1 ih.2.1 ih.2.2.1 ih.2.2.2.1 ih.2.2.2.2.1 ih.2.2.2.2.2.1 ih.2.2.2.2.2.2, fun _ _ _ _ _ _ h => ywd_fb_M_clear_281 (N := N) h ih.1 ih.2.1 ih.2.2.1 ih.2.2.2.1 ih.2.2.2.2.1 ih.2.2.2.2.2.1 ih.2.2.2.2.2.2, fun _ _ _ h => ywd_fb_M_clear_337 (N := N) h ih.1 ih.2.1 ih.2.2.1 ih.2.2.2.1 ih.2.2.2.2.1 ih.2.2.2.2.2.1 ih.2.2.2.2.2.2⟩
theorem ywd_fm_M_clear {v1 : Int32} (h : Kwdc u0 u)  : KwdE u0 (fm_M_clear N u v1) := by
  unfold fm_M_clear
  exact ywd_fb_M_clear_0 h ((ywd_gg_M_clear N).1) ((ywd_gg_M_clear N).2.1) ((ywd_gg_M_clear N).2.2.1) ((ywd_gg_M_clear N).2.2.2.1) ((ywd_gg_M_clear N).2.2.2.2.1) ((ywd_gg_M_clear N).2.2.2.2.2.1) ((ywd_gg_M_clear N).2.2.2.2.2.2)
theorem ywd_fb_M_hand_0 {G : Unit} {v1 : Int32} {v2 : Int64} (h : Kwdc u0 u)  : KwdE u0 (fb_M_hand_0 N G u v1 v2) := by
  unfold fb_M_hand_0
  repeat' (first | with_reducible assumption | with_reducible refine Kwd_br ?_ ?_ | with_reducible refine Kwd_bnd ?_ (fun _ _ _ => ?_) | with_reducible refine Kwd_ck ?_ | with_reducible refine Kwd_ltm ?_ (fun _ _ => ?_) | with_reducible refine Kwd_some ?_ | with_reducible refine Kwd_bo (fun _ => ?_) | with_reducible refine Kwd_T ?_ (fun _ _ _ => ?_) | with_reducible refine Kwd_H ?_ (fun _ _ _ => ?_) (fun _ _ => ?_) | with_reducible refine Kwd_ltv (fun _ => ?_) | with_reducible refine Kwd_I ?_ (by decide) | with_reducible refine Kwd_A ?_ (by decide) | with_reducible refine Kwd_J ?_ | with_reducible refine Kwd_L ?_)
theorem ywd_fm_M_hand {v1 : Int32} {v2 : Int64} (h : Kwdc u0 u)  : KwdE u0 (fm_M_hand N u v1 v2) := by
  unfold fm_M_hand
  exact ywd_fb_M_hand_0 h
theorem ywd_fb_M_handNone_0 {G : Unit} (h : Kwdc u0 u)  : KwdE u0 (fb_M_handNone_0 N G u) := by
  unfold fb_M_handNone_0
  repeat' (first | with_reducible assumption | with_reducible refine Kwd_br ?_ ?_ | with_reducible refine Kwd_bnd ?_ (fun _ _ _ => ?_) | with_reducible refine Kwd_ck ?_ | with_reducible refine Kwd_ltm ?_ (fun _ _ => ?_) | with_reducible refine Kwd_some ?_ | with_reducible refine Kwd_bo (fun _ => ?_) | with_reducible refine Kwd_T ?_ (fun _ _ _ => ?_) | with_reducible refine Kwd_H ?_ (fun _ _ _ => ?_) (fun _ _ => ?_) | with_reducible exact ywd_fm_M_term (by assumption) | with_reducible refine Kwd_ltv (fun _ => ?_) | with_reducible refine Kwd_I ?_ (by decide) | with_reducible refine Kwd_A ?_ (by decide) | with_reducible refine Kwd_J ?_ | with_reducible refine Kwd_L ?_)
theorem ywd_fm_M_handNone  (h : Kwdc u0 u)  : KwdE u0 (fm_M_handNone N u) := by
  unfold fm_M_handNone
  exact ywd_fb_M_handNone_0 h
theorem ywd_fb_M_wants_38 {G : Unit} {t0 : Int32} (h : Kwdc u0 u)  : KwdE u0 (fb_M_wants_38 N G u t0) := by
  unfold fb_M_wants_38
  repeat' (first | with_reducible assumption | with_reducible refine Kwd_br ?_ ?_ | with_reducible refine Kwd_bnd ?_ (fun _ _ _ => ?_) | with_reducible refine Kwd_ck ?_ | with_reducible refine Kwd_ltm ?_ (fun _ _ => ?_) | with_reducible refine Kwd_some ?_ | with_reducible refine Kwd_bo (fun _ => ?_) | with_reducible refine Kwd_T ?_ (fun _ _ _ => ?_) | with_reducible refine Kwd_H ?_ (fun _ _ _ => ?_) (fun _ _ => ?_) | with_reducible refine Kwd_ltv (fun _ => ?_) | with_reducible refine Kwd_I ?_ (by decide) | with_reducible refine Kwd_A ?_ (by decide) | with_reducible refine Kwd_J ?_ | with_reducible refine Kwd_L ?_)
theorem ywd_fb_M_wants_19 {G : Unit} {v1 : Int32} {v2 : Int32} (h : Kwdc u0 u)  : KwdE u0 (fb_M_wants_19 N G u v1 v2) := by
  unfold fb_M_wants_19
  repeat' (first | with_reducible assumption | with_reducible refine Kwd_br ?_ ?_ | with_reducible refine Kwd_bnd ?_ (fun _ _ _ => ?_) | with_reducible refine Kwd_ck ?_ | with_reducible refine Kwd_ltm ?_ (fun _ _ => ?_) | with_reducible refine Kwd_some ?_ | with_reducible refine Kwd_bo (fun _ => ?_) | with_reducible refine Kwd_T ?_ (fun _ _ _ => ?_) | with_reducible refine Kwd_H ?_ (fun _ _ _ => ?_) (fun _ _ => ?_) | with_reducible exact ywd_fb_M_wants_38 (by assumption) | with_reducible refine Kwd_ltv (fun _ => ?_) | with_reducible refine Kwd_I ?_ (by decide) | with_reducible refine Kwd_A ?_ (by decide) | with_reducible refine Kwd_J ?_ | with_reducible refine Kwd_L ?_)
theorem ywd_fb_M_wants_0 {G : Unit} {v1 : Int32} {v2 : Int32} (h : Kwdc u0 u)  : KwdE u0 (fb_M_wants_0 N G u v1 v2) := by
  unfold fb_M_wants_0
  repeat' (first | with_reducible assumption | with_reducible refine Kwd_br ?_ ?_ | with_reducible refine Kwd_bnd ?_ (fun _ _ _ => ?_) | with_reducible refine Kwd_ck ?_ | with_reducible refine Kwd_ltm ?_ (fun _ _ => ?_) | with_reducible refine Kwd_some ?_ | with_reducible refine Kwd_bo (fun _ => ?_) | with_reducible refine Kwd_T ?_ (fun _ _ _ => ?_) | with_reducible refine Kwd_H ?_ (fun _ _ _ => ?_) (fun _ _ => ?_) | with_reducible exact ywd_fb_M_wants_19 (by assumption) | with_reducible exact ywd_fm_M_clear (by assumption) | with_reducible refine Kwd_ltv (fun _ => ?_) | with_reducible refine Kwd_I ?_ (by decide) | with_reducible refine Kwd_A ?_ (by decide) | with_reducible refine Kwd_J ?_ | with_reducible refine Kwd_L ?_)
theorem ywd_fm_M_wants {v1 : Int32} {v2 : Int32} (h : Kwdc u0 u)  : KwdE u0 (fm_M_wants N u v1 v2) := by
  unfold fm_M_wants
  exact ywd_fb_M_wants_0 h
theorem ywd_fb_M_copySize_132 {G : (MS → Int32 → Int32 → Int32 → Option (MS × Int32)) × (MS → Int32 → Int32 → Int32 → Int64 → Int32 → Int32 → Option (MS × Int32))} {t0 : Int32} (h : Kwdc u0 u) (hG0 : ∀ (u : MS) a0 a1 a2, Kwdc u0 u → KwdE u0 (G.1 u a0 a1 a2)) (hG1 : ∀ (u : MS) a0 a1 a2 a3 a4 a5, Kwdc u0 u → KwdE u0 (G.2 u a0 a1 a2 a3 a4 a5)) : KwdE u0 (fb_M_copySize_132 N G u t0) := by
  unfold fb_M_copySize_132
  repeat' (first | with_reducible assumption | with_reducible refine Kwd_br ?_ ?_ | with_reducible refine Kwd_bnd ?_ (fun _ _ _ => ?_) | with_reducible refine Kwd_ck ?_ | with_reducible refine Kwd_ltm ?_ (fun _ _ => ?_) | with_reducible refine Kwd_some ?_ | with_reducible refine Kwd_bo (fun _ => ?_) | with_reducible refine Kwd_T ?_ (fun _ _ _ => ?_) | with_reducible refine Kwd_H ?_ (fun _ _ _ => ?_) (fun _ _ => ?_) | with_reducible exact hG0 _ _ _ _ (by assumption) | with_reducible exact hG1 _ _ _ _ _ _ _ (by assumption) | with_reducible refine Kwd_ltv (fun _ => ?_) | with_reducible refine Kwd_I ?_ (by decide) | with_reducible refine Kwd_A ?_ (by decide) | with_reducible refine Kwd_J ?_ | with_reducible refine Kwd_L ?_)
theorem ywd_fb_M_copySize_116 {G : (MS → Int32 → Int32 → Int32 → Option (MS × Int32)) × (MS → Int32 → Int32 → Int32 → Int64 → Int32 → Int32 → Option (MS × Int32))} {v4 : Int32} (h : Kwdc u0 u) (hG0 : ∀ (u : MS) a0 a1 a2, Kwdc u0 u → KwdE u0 (G.1 u a0 a1 a2)) (hG1 : ∀ (u : MS) a0 a1 a2 a3 a4 a5, Kwdc u0 u → KwdE u0 (G.2 u a0 a1 a2 a3 a4 a5)) : KwdE u0 (fb_M_copySize_116 N G u v4) := by
  unfold fb_M_copySize_116
  repeat' (first | with_reducible assumption | with_reducible refine Kwd_br ?_ ?_ | with_reducible refine Kwd_bnd ?_ (fun _ _ _ => ?_) | with_reducible refine Kwd_ck ?_ | with_reducible refine Kwd_ltm ?_ (fun _ _ => ?_) | with_reducible refine Kwd_some ?_ | with_reducible refine Kwd_bo (fun _ => ?_) | with_reducible refine Kwd_T ?_ (fun _ _ _ => ?_) | with_reducible refine Kwd_H ?_ (fun _ _ _ => ?_) (fun _ _ => ?_) | with_reducible exact ywd_fb_M_copySize_132 (by assumption) hG0 hG1 | with_reducible exact hG0 _ _ _ _ (by assumption) | with_reducible exact hG1 _ _ _ _ _ _ _ (by assumption) | with_reducible refine Kwd_ltv (fun _ => ?_) | with_reducible refine Kwd_I ?_ (by decide) | with_reducible refine Kwd_A ?_ (by decide) | with_reducible refine Kwd_J ?_ | with_reducible refine Kwd_L ?_)
theorem ywd_fb_M_copySize_113 {G : (MS → Int32 → Int32 → Int32 → Option (MS × Int32)) × (MS → Int32 → Int32 → Int32 → Int64 → Int32 → Int32 → Option (MS × Int32))} {v1 : Int32} {v4 : Int32} {v5 : Int32} (h : Kwdc u0 u) (hG0 : ∀ (u : MS) a0 a1 a2, Kwdc u0 u → KwdE u0 (G.1 u a0 a1 a2)) (hG1 : ∀ (u : MS) a0 a1 a2 a3 a4 a5, Kwdc u0 u → KwdE u0 (G.2 u a0 a1 a2 a3 a4 a5)) : KwdE u0 (fb_M_copySize_113 N G u v1 v4 v5) := by
  unfold fb_M_copySize_113
  repeat' (first | with_reducible assumption | with_reducible refine Kwd_br ?_ ?_ | with_reducible refine Kwd_bnd ?_ (fun _ _ _ => ?_) | with_reducible refine Kwd_ck ?_ | with_reducible refine Kwd_ltm ?_ (fun _ _ => ?_) | with_reducible refine Kwd_some ?_ | with_reducible refine Kwd_bo (fun _ => ?_) | with_reducible refine Kwd_T ?_ (fun _ _ _ => ?_) | with_reducible refine Kwd_H ?_ (fun _ _ _ => ?_) (fun _ _ => ?_) | with_reducible exact hG0 _ _ _ _ (by assumption) | with_reducible exact hG1 _ _ _ _ _ _ _ (by assumption) | with_reducible refine Kwd_ltv (fun _ => ?_) | with_reducible refine Kwd_I ?_ (by decide) | with_reducible refine Kwd_A ?_ (by decide) | with_reducible refine Kwd_J ?_ | with_reducible refine Kwd_L ?_)
theorem ywd_fb_M_copySize_69 {G : (MS → Int32 → Int32 → Int32 → Option (MS × Int32)) × (MS → Int32 → Int32 → Int32 → Int64 → Int32 → Int32 → Option (MS × Int32))} {v1 : Int32} {v4 : Int32} {v5 : Int32} {v6 : Int64} {v8 : Int32} {v9 : Int32} (h : Kwdc u0 u) (hG0 : ∀ (u : MS) a0 a1 a2, Kwdc u0 u → KwdE u0 (G.1 u a0 a1 a2)) (hG1 : ∀ (u : MS) a0 a1 a2 a3 a4 a5, Kwdc u0 u → KwdE u0 (G.2 u a0 a1 a2 a3 a4 a5)) : KwdE u0 (fb_M_copySize_69 N G u v1 v4 v5 v6 v8 v9) := by
  unfold fb_M_copySize_69
  repeat' (first | with_reducible assumption | with_reducible refine Kwd_br ?_ ?_ | with_reducible refine Kwd_bnd ?_ (fun _ _ _ => ?_) | with_reducible refine Kwd_ck ?_ | with_reducible refine Kwd_ltm ?_ (fun _ _ => ?_) | with_reducible refine Kwd_some ?_ | with_reducible refine Kwd_bo (fun _ => ?_) | with_reducible refine Kwd_T ?_ (fun _ _ _ => ?_) | with_reducible refine Kwd_H ?_ (fun _ _ _ => ?_) (fun _ _ => ?_) | with_reducible exact ywd_fb_M_copySize_113 (by assumption) hG0 hG1 | with_reducible exact ywd_fm_M_valueOf (by assumption) | with_reducible exact ywd_fm_M_cell (by assumption) | with_reducible exact hG0 _ _ _ _ (by assumption) | with_reducible exact hG1 _ _ _ _ _ _ _ (by assumption) | with_reducible refine Kwd_ltv (fun _ => ?_) | with_reducible refine Kwd_I ?_ (by decide) | with_reducible refine Kwd_A ?_ (by decide) | with_reducible refine Kwd_J ?_ | with_reducible refine Kwd_L ?_)
theorem ywd_fb_M_copySize_13 {G : (MS → Int32 → Int32 → Int32 → Option (MS × Int32)) × (MS → Int32 → Int32 → Int32 → Int64 → Int32 → Int32 → Option (MS × Int32))} {v1 : Int32} {v4 : Int32} {v5 : Int32} (h : Kwdc u0 u) (hG0 : ∀ (u : MS) a0 a1 a2, Kwdc u0 u → KwdE u0 (G.1 u a0 a1 a2)) (hG1 : ∀ (u : MS) a0 a1 a2 a3 a4 a5, Kwdc u0 u → KwdE u0 (G.2 u a0 a1 a2 a3 a4 a5)) : KwdE u0 (fb_M_copySize_13 N G u v1 v4 v5) := by
  unfold fb_M_copySize_13
  repeat' (first | with_reducible assumption | with_reducible refine Kwd_br ?_ ?_ | with_reducible refine Kwd_bnd ?_ (fun _ _ _ => ?_) | with_reducible refine Kwd_ck ?_ | with_reducible refine Kwd_ltm ?_ (fun _ _ => ?_) | with_reducible refine Kwd_some ?_ | with_reducible refine Kwd_bo (fun _ => ?_) | with_reducible refine Kwd_T ?_ (fun _ _ _ => ?_) | with_reducible refine Kwd_H ?_ (fun _ _ _ => ?_) (fun _ _ => ?_) | with_reducible exact ywd_fb_M_copySize_113 (by assumption) hG0 hG1 | with_reducible exact ywd_fb_M_copySize_116 (by assumption) hG0 hG1 | with_reducible exact ywd_fm_M_partsFrom (by assumption) | with_reducible exact ywd_fm_M_inHeap (by assumption) | with_reducible exact ywd_fm_M_sizeOf (by assumption) | with_reducible exact hG0 _ _ _ _ (by assumption) | with_reducible exact hG1 _ _ _ _ _ _ _ (by assumption) | with_reducible refine Kwd_ltv (fun _ => ?_) | with_reducible refine Kwd_I ?_ (by decide) | with_reducible refine Kwd_A ?_ (by decide) | with_reducible refine Kwd_J ?_ | with_reducible refine Kwd_L ?_)
theorem ywd_fb_M_copySize_0 {G : (MS → Int32 → Int32 → Int32 → Option (MS × Int32)) × (MS → Int32 → Int32 → Int32 → Int64 → Int32 → Int32 → Option (MS × Int32))} {v1 : Int32} {v2 : Int64} (h : Kwdc u0 u) (hG0 : ∀ (u : MS) a0 a1 a2, Kwdc u0 u → KwdE u0 (G.1 u a0 a1 a2)) (hG1 : ∀ (u : MS) a0 a1 a2 a3 a4 a5, Kwdc u0 u → KwdE u0 (G.2 u a0 a1 a2 a3 a4 a5)) : KwdE u0 (fb_M_copySize_0 N G u v1 v2) := by
  unfold fb_M_copySize_0
  repeat' (first | with_reducible assumption | with_reducible refine Kwd_br ?_ ?_ | with_reducible refine Kwd_bnd ?_ (fun _ _ _ => ?_) | with_reducible refine Kwd_ck ?_ | with_reducible refine Kwd_ltm ?_ (fun _ _ => ?_) | with_reducible refine Kwd_some ?_ | with_reducible refine Kwd_bo (fun _ => ?_) | with_reducible refine Kwd_T ?_ (fun _ _ _ => ?_) | with_reducible refine Kwd_H ?_ (fun _ _ _ => ?_) (fun _ _ => ?_) | with_reducible exact hG0 _ _ _ _ (by assumption) | with_reducible exact hG1 _ _ _ _ _ _ _ (by assumption) | with_reducible refine Kwd_ltv (fun _ => ?_) | with_reducible refine Kwd_I ?_ (by decide) | with_reducible refine Kwd_A ?_ (by decide) | with_reducible refine Kwd_J ?_ | with_reducible refine Kwd_L ?_)
theorem ywd_gg_M_copySize  (n : Nat) : (∀ (u : MS) a0 a1 a2, Kwdc u0 u → KwdE u0 ((gg_M_copySize N n).1 u a0 a1 a2)) ∧ (∀ (u : MS) a0 a1 a2 a3 a4 a5, Kwdc u0 u → KwdE u0 ((gg_M_copySize N n).2 u a0 a1 a2 a3 a4 a5)) := by
  induction n with
  | zero => exact ⟨fun _ _ _ _ _ => Kwd_none, fun _ _ _ _ _ _ _ _ => Kwd_none⟩
  | succ n ih => exact ⟨fun _ _ _ _ h => ywd_fb_M_copySize_13 (N := N) h ih.1 ih.2, fun _ _ _ _ _ _ _ h => ywd_fb_M_copySize_69 (N := N) h ih.1 ih.2⟩
theorem ywd_fm_M_copySize {v1 : Int32} {v2 : Int64} (h : Kwdc u0 u)  : KwdE u0 (fm_M_copySize N u v1 v2) := by
  unfold fm_M_copySize
  exact ywd_fb_M_copySize_0 h ((ywd_gg_M_copySize N).1) ((ywd_gg_M_copySize N).2)
theorem ywd_fb_M_copy_214 {G : (MS → Int32 → Int32 → Int64 → Int32 → Option (MS × Int64)) × (MS → Int32 → Int32 → Int64 → Int32 → Int64 → Int32 → Int32 → Int32 → Option (MS × Int64))} {v1 : Int32} {v4 : Int32} {v5 : Int64} {v7 : Int32} {v8 : Int64} {v11 : Int32} {v12 : Int32} {v13 : Int32} (h : Kwdc u0 u) (hG0 : ∀ (u : MS) a0 a1 a2 a3, Kwdc u0 u → KwdE u0 (G.1 u a0 a1 a2 a3)) (hG1 : ∀ (u : MS) a0 a1 a2 a3 a4 a5 a6 a7, Kwdc u0 u → KwdE u0 (G.2 u a0 a1 a2 a3 a4 a5 a6 a7)) : KwdE u0 (fb_M_copy_214 N G u v1 v4 v5 v7 v8 v11 v12 v13) := by
  unfold fb_M_copy_214
  repeat' (first | with_reducible assumption | with_reducible refine Kwd_br ?_ ?_ | with_reducible refine Kwd_bnd ?_ (fun _ _ _ => ?_) | with_reducible refine Kwd_ck ?_ | with_reducible refine Kwd_ltm ?_ (fun _ _ => ?_) | with_reducible refine Kwd_some ?_ | with_reducible refine Kwd_bo (fun _ => ?_) | with_reducible refine Kwd_T ?_ (fun _ _ _ => ?_) | with_reducible refine Kwd_H ?_ (fun _ _ _ => ?_) (fun _ _ => ?_) | with_reducible exact hG0 _ _ _ _ _ (by assumption) | with_reducible exact hG1 _ _ _ _ _ _ _ _ _ (by assumption) | with_reducible refine Kwd_ltv (fun _ => ?_) | with_reducible refine Kwd_I ?_ (by decide) | with_reducible refine Kwd_A ?_ (by decide) | with_reducible refine Kwd_J ?_ | with_reducible refine Kwd_L ?_)
theorem ywd_fb_M_copy_131 {G : (MS → Int32 → Int32 → Int64 → Int32 → Option (MS × Int64)) × (MS → Int32 → Int32 → Int64 → Int32 → Int64 → Int32 → Int32 → Int32 → Option (MS × Int64))} {v1 : Int32} {v4 : Int32} {v5 : Int64} {v7 : Int32} {v8 : Int64} {v11 : Int32} {v12 : Int32} {v13 : Int32} (h : Kwdc u0 u) (hG0 : ∀ (u : MS) a0 a1 a2 a3, Kwdc u0 u → KwdE u0 (G.1 u a0 a1 a2 a3)) (hG1 : ∀ (u : MS) a0 a1 a2 a3 a4 a5 a6 a7, Kwdc u0 u → KwdE u0 (G.2 u a0 a1 a2 a3 a4 a5 a6 a7)) : KwdE u0 (fb_M_copy_131 N G u v1 v4 v5 v7 v8 v11 v12 v13) := by
  unfold fb_M_copy_131
  repeat' (first | with_reducible assumption | with_reducible refine Kwd_br ?_ ?_ | with_reducible refine Kwd_bnd ?_ (fun _ _ _ => ?_) | with_reducible refine Kwd_ck ?_ | with_reducible refine Kwd_ltm ?_ (fun _ _ => ?_) | with_reducible refine Kwd_some ?_ | with_reducible refine Kwd_bo (fun _ => ?_) | with_reducible refine Kwd_T ?_ (fun _ _ _ => ?_) | with_reducible refine Kwd_H ?_ (fun _ _ _ => ?_) (fun _ _ => ?_) | with_reducible exact ywd_fb_M_copy_214 (by assumption) hG0 hG1 | with_reducible exact ywd_fm_M_partsFrom (by assumption) | with_reducible exact ywd_fm_M_valueOf (by assumption) | with_reducible exact ywd_fm_M_inHeap (by assumption) | with_reducible exact ywd_fm_M_cell (by assumption) | with_reducible exact hG0 _ _ _ _ _ (by assumption) | with_reducible exact hG1 _ _ _ _ _ _ _ _ _ (by assumption) | with_reducible refine Kwd_ltv (fun _ => ?_) | with_reducible refine Kwd_I ?_ (by decide) | with_reducible refine Kwd_A ?_ (by decide) | with_reducible refine Kwd_J ?_ | with_reducible refine Kwd_L ?_)
theorem ywd_fb_M_copy_128 {G : (MS → Int32 → Int32 → Int64 → Int32 → Option (MS × Int64)) × (MS → Int32 → Int32 → Int64 → Int32 → Int64 → Int32 → Int32 → Int32 → Option (MS × Int64))} {v1 : Int32} {v4 : Int32} {v5 : Int64} {v7 : Int32} {v8 : Int64} {v11 : Int32} {v12 : Int32} (h : Kwdc u0 u) (hG0 : ∀ (u : MS) a0 a1 a2 a3, Kwdc u0 u → KwdE u0 (G.1 u a0 a1 a2 a3)) (hG1 : ∀ (u : MS) a0 a1 a2 a3 a4 a5 a6 a7, Kwdc u0 u → KwdE u0 (G.2 u a0 a1 a2 a3 a4 a5 a6 a7)) : KwdE u0 (fb_M_copy_128 N G u v1 v4 v5 v7 v8 v11 v12) := by
  unfold fb_M_copy_128
  repeat' (first | with_reducible assumption | with_reducible refine Kwd_br ?_ ?_ | with_reducible refine Kwd_bnd ?_ (fun _ _ _ => ?_) | with_reducible refine Kwd_ck ?_ | with_reducible refine Kwd_ltm ?_ (fun _ _ => ?_) | with_reducible refine Kwd_some ?_ | with_reducible refine Kwd_bo (fun _ => ?_) | with_reducible refine Kwd_T ?_ (fun _ _ _ => ?_) | with_reducible refine Kwd_H ?_ (fun _ _ _ => ?_) (fun _ _ => ?_) | with_reducible exact hG0 _ _ _ _ _ (by assumption) | with_reducible exact hG1 _ _ _ _ _ _ _ _ _ (by assumption) | with_reducible refine Kwd_ltv (fun _ => ?_) | with_reducible refine Kwd_I ?_ (by decide) | with_reducible refine Kwd_A ?_ (by decide) | with_reducible refine Kwd_J ?_ | with_reducible refine Kwd_L ?_)
theorem ywd_fb_M_copy_42 {G : (MS → Int32 → Int32 → Int64 → Int32 → Option (MS × Int64)) × (MS → Int32 → Int32 → Int64 → Int32 → Int64 → Int32 → Int32 → Int32 → Option (MS × Int64))} {v1 : Int32} {v4 : Int32} {v5 : Int64} {v7 : Int32} (h : Kwdc u0 u) (hG0 : ∀ (u : MS) a0 a1 a2 a3, Kwdc u0 u → KwdE u0 (G.1 u a0 a1 a2 a3)) (hG1 : ∀ (u : MS) a0 a1 a2 a3 a4 a5 a6 a7, Kwdc u0 u → KwdE u0 (G.2 u a0 a1 a2 a3 a4 a5 a6 a7)) : KwdE u0 (fb_M_copy_42 N G u v1 v4 v5 v7) := by
  unfold fb_M_copy_42
  repeat' (first | with_reducible assumption | with_reducible refine Kwd_br ?_ ?_ | with_reducible refine Kwd_bnd ?_ (fun _ _ _ => ?_) | with_reducible refine Kwd_ck ?_ | with_reducible refine Kwd_ltm ?_ (fun _ _ => ?_) | with_reducible refine Kwd_some ?_ | with_reducible refine Kwd_bo (fun _ => ?_) | with_reducible refine Kwd_T ?_ (fun _ _ _ => ?_) | with_reducible refine Kwd_H ?_ (fun _ _ _ => ?_) (fun _ _ => ?_) | with_reducible exact ywd_fb_M_copy_128 (by assumption) hG0 hG1 | with_reducible exact ywd_fm_M_sizeOf (by assumption) | with_reducible exact hG0 _ _ _ _ _ (by assumption) | with_reducible exact hG1 _ _ _ _ _ _ _ _ _ (by assumption) | with_reducible refine Kwd_ltv (fun _ => ?_) | with_reducible refine Kwd_I ?_ (by decide) | with_reducible refine Kwd_A ?_ (by decide) | with_reducible refine Kwd_J ?_ | with_reducible refine Kwd_L ?_)
theorem ywd_fb_M_copy_0 {G : (MS → Int32 → Int32 → Int64 → Int32 → Option (MS × Int64)) × (MS → Int32 → Int32 → Int64 → Int32 → Int64 → Int32 → Int32 → Int32 → Option (MS × Int64))} {v1 : Int32} {v2 : Int64} {v4 : Int32} (h : Kwdc u0 u) (hG0 : ∀ (u : MS) a0 a1 a2 a3, Kwdc u0 u → KwdE u0 (G.1 u a0 a1 a2 a3)) (hG1 : ∀ (u : MS) a0 a1 a2 a3 a4 a5 a6 a7, Kwdc u0 u → KwdE u0 (G.2 u a0 a1 a2 a3 a4 a5 a6 a7)) : KwdE u0 (fb_M_copy_0 N G u v1 v2 v4) := by
  unfold fb_M_copy_0
  repeat' (first | with_reducible assumption | with_reducible refine Kwd_br ?_ ?_ | with_reducible refine Kwd_bnd ?_ (fun _ _ _ => ?_) | with_reducible refine Kwd_ck ?_ | with_reducible refine Kwd_ltm ?_ (fun _ _ => ?_) | with_reducible refine Kwd_some ?_ | with_reducible refine Kwd_bo (fun _ => ?_) | with_reducible refine Kwd_T ?_ (fun _ _ _ => ?_) | with_reducible refine Kwd_H ?_ (fun _ _ _ => ?_) (fun _ _ => ?_) | with_reducible exact ywd_fm_M_inHeap (by assumption) | with_reducible exact hG0 _ _ _ _ _ (by assumption) | with_reducible exact hG1 _ _ _ _ _ _ _ _ _ (by assumption) | with_reducible refine Kwd_ltv (fun _ => ?_) | with_reducible refine Kwd_I ?_ (by decide) | with_reducible refine Kwd_A ?_ (by decide) | with_reducible refine Kwd_J ?_ | with_reducible refine Kwd_L ?_)
theorem ywd_gg_M_copy  (n : Nat) : (∀ (u : MS) a0 a1 a2 a3, Kwdc u0 u → KwdE u0 ((gg_M_copy N n).1 u a0 a1 a2 a3)) ∧ (∀ (u : MS) a0 a1 a2 a3 a4 a5 a6 a7, Kwdc u0 u → KwdE u0 ((gg_M_copy N n).2 u a0 a1 a2 a3 a4 a5 a6 a7)) := by
  induction n with
  | zero => exact ⟨fun _ _ _ _ _ _ => Kwd_none, fun _ _ _ _ _ _ _ _ _ _ => Kwd_none⟩
  | succ n ih => exact ⟨fun _ _ _ _ _ h => ywd_fb_M_copy_42 (N := N) h ih.1 ih.2, fun _ _ _ _ _ _ _ _ _ h => ywd_fb_M_copy_131 (N := N) h ih.1 ih.2⟩
theorem ywd_fm_M_copy {v1 : Int32} {v2 : Int64} {v4 : Int32} (h : Kwdc u0 u)  : KwdE u0 (fm_M_copy N u v1 v2 v4) := by
  unfold fm_M_copy
  exact ywd_fb_M_copy_0 h ((ywd_gg_M_copy N).1) ((ywd_gg_M_copy N).2)
theorem ywd_fb_M_willEnd_68 {G : Unit} (h : Kwdc u0 u)  : KwdE u0 (fb_M_willEnd_68 N G u) := by
  unfold fb_M_willEnd_68
  repeat' (first | with_reducible assumption | with_reducible refine Kwd_br ?_ ?_ | with_reducible refine Kwd_bnd ?_ (fun _ _ _ => ?_) | with_reducible refine Kwd_ck ?_ | with_reducible refine Kwd_ltm ?_ (fun _ _ => ?_) | with_reducible refine Kwd_some ?_ | with_reducible refine Kwd_bo (fun _ => ?_) | with_reducible refine Kwd_T ?_ (fun _ _ _ => ?_) | with_reducible refine Kwd_H ?_ (fun _ _ _ => ?_) (fun _ _ => ?_) | with_reducible refine Kwd_ltv (fun _ => ?_) | with_reducible refine Kwd_I ?_ (by decide) | with_reducible refine Kwd_A ?_ (by decide) | with_reducible refine Kwd_J ?_ | with_reducible refine Kwd_L ?_)
theorem ywd_fb_M_willEnd_0 {G : Unit} {v1 : Int32} {v2 : Int32} {v3 : Int32} {v4 : Int64} (h : Kwdc u0 u)  : KwdE u0 (fb_M_willEnd_0 N G u v1 v2 v3 v4) := by
  unfold fb_M_willEnd_0
  repeat' (first | with_reducible assumption | with_reducible refine Kwd_br ?_ ?_ | with_reducible refine Kwd_bnd ?_ (fun _ _ _ => ?_) | with_reducible refine Kwd_ck ?_ | with_reducible refine Kwd_ltm ?_ (fun _ _ => ?_) | with_reducible refine Kwd_some ?_ | with_reducible refine Kwd_bo (fun _ => ?_) | with_reducible refine Kwd_T ?_ (fun _ _ _ => ?_) | with_reducible refine Kwd_H ?_ (fun _ _ _ => ?_) (fun _ _ => ?_) | with_reducible exact ywd_fb_M_willEnd_68 (by assumption) | with_reducible refine Kwd_ltv (fun _ => ?_) | with_reducible refine Kwd_I ?_ (by decide) | with_reducible refine Kwd_A ?_ (by decide) | with_reducible refine Kwd_J ?_ | with_reducible refine Kwd_L ?_)
theorem ywd_fm_M_willEnd {v1 : Int32} {v2 : Int32} {v3 : Int32} {v4 : Int64} (h : Kwdc u0 u)  : KwdE u0 (fm_M_willEnd N u v1 v2 v3 v4) := by
  unfold fm_M_willEnd
  exact ywd_fb_M_willEnd_0 h
theorem ywd_fb_M_message_406 {G : Unit} {v1 : Int32} {v12 : Int64} (h : Kwdc u0 u)  : KwdE u0 (fb_M_message_406 N G u v1 v12) := by
  unfold fb_M_message_406
  repeat' (first | with_reducible assumption | with_reducible refine Kwd_br ?_ ?_ | with_reducible refine Kwd_bnd ?_ (fun _ _ _ => ?_) | with_reducible refine Kwd_ck ?_ | with_reducible refine Kwd_ltm ?_ (fun _ _ => ?_) | with_reducible refine Kwd_some ?_ | with_reducible refine Kwd_bo (fun _ => ?_) | with_reducible refine Kwd_T ?_ (fun _ _ _ => ?_) | with_reducible refine Kwd_H ?_ (fun _ _ _ => ?_) (fun _ _ => ?_) | with_reducible refine Kwd_ltv (fun _ => ?_) | with_reducible refine Kwd_I ?_ (by decide) | with_reducible refine Kwd_A ?_ (by decide) | with_reducible refine Kwd_J ?_ | with_reducible refine Kwd_L ?_)
theorem ywd_fb_M_message_378 {G : Unit} {v1 : Int32} {v12 : Int64} {v14 : Int32} {v15 : Int64} (h : Kwdc u0 u)  : KwdE u0 (fb_M_message_378 N G u v1 v12 v14 v15) := by
  unfold fb_M_message_378
  repeat' (first | with_reducible assumption | with_reducible refine Kwd_br ?_ ?_ | with_reducible refine Kwd_bnd ?_ (fun _ _ _ => ?_) | with_reducible refine Kwd_ck ?_ | with_reducible refine Kwd_ltm ?_ (fun _ _ => ?_) | with_reducible refine Kwd_some ?_ | with_reducible refine Kwd_bo (fun _ => ?_) | with_reducible refine Kwd_T ?_ (fun _ _ _ => ?_) | with_reducible refine Kwd_H ?_ (fun _ _ _ => ?_) (fun _ _ => ?_) | with_reducible exact ywd_fb_M_message_406 (by assumption) | with_reducible refine Kwd_ltv (fun _ => ?_) | with_reducible refine Kwd_I ?_ (by decide) | with_reducible refine Kwd_A ?_ (by decide) | with_reducible refine Kwd_J ?_ | with_reducible refine Kwd_L ?_)
theorem ywd_fb_M_message_328 {G : Unit} {v1 : Int32} {v6 : Int32} {v10 : Int64} {v12 : Int64} {v14 : Int32} {v17 : Int32} {t0 : Nat} {t1 : Int32} {t2 : Int32} {t3 : Int32} (h : Kwdc u0 u)  : KwdE u0 (fb_M_message_328 N G u v1 v6 v10 v12 v14 v17 t0 t1 t2 t3) := by
  unfold fb_M_message_328
  repeat' (first | with_reducible assumption | with_reducible refine Kwd_br ?_ ?_ | with_reducible refine Kwd_bnd ?_ (fun _ _ _ => ?_) | with_reducible refine Kwd_ck ?_ | with_reducible refine Kwd_ltm ?_ (fun _ _ => ?_) | with_reducible refine Kwd_some ?_ | with_reducible refine Kwd_bo (fun _ => ?_) | with_reducible refine Kwd_T ?_ (fun _ _ _ => ?_) | with_reducible refine Kwd_H ?_ (fun _ _ _ => ?_) (fun _ _ => ?_) | with_reducible exact ywd_fb_M_message_378 (by assumption) | with_reducible exact ywd_fm_M_copy (by assumption) | with_reducible exact ywd_fm_M_term (by assumption) | with_reducible refine Kwd_ltv (fun _ => ?_) | with_reducible refine Kwd_I ?_ (by decide) | with_reducible refine Kwd_A ?_ (by decide) | with_reducible refine Kwd_J ?_ | with_reducible refine Kwd_L ?_)
theorem ywd_fb_M_message_261 {G : Unit} {v1 : Int32} {v5 : Int32} {v6 : Int32} {v10 : Int64} {v12 : Int64} {v14 : Int32} (h : Kwdc u0 u)  : KwdE u0 (fb_M_message_261 N G u v1 v5 v6 v10 v12 v14) := by
  unfold fb_M_message_261
  repeat' (first | with_reducible assumption | with_reducible refine Kwd_br ?_ ?_ | with_reducible refine Kwd_bnd ?_ (fun _ _ _ => ?_) | with_reducible refine Kwd_ck ?_ | with_reducible refine Kwd_ltm ?_ (fun _ _ => ?_) | with_reducible refine Kwd_some ?_ | with_reducible refine Kwd_bo (fun _ => ?_) | with_reducible refine Kwd_T ?_ (fun _ _ _ => ?_) | with_reducible refine Kwd_H ?_ (fun _ _ _ => ?_) (fun _ _ => ?_) | with_reducible exact ywd_fb_M_message_328 (by assumption) | with_reducible exact ywd_fb_M_message_378 (by assumption) | with_reducible exact ywd_fm_M_copy (by assumption) | with_reducible refine Kwd_ltv (fun _ => ?_) | with_reducible refine Kwd_I ?_ (by decide) | with_reducible refine Kwd_A ?_ (by decide) | with_reducible refine Kwd_J ?_ | with_reducible refine Kwd_L ?_)
theorem ywd_fb_M_message_222 {G : Unit} {v1 : Int32} {v4 : Int32} {v5 : Int32} {v6 : Int32} {v10 : Int64} {v15 : Int32} {v16 : Int32} (h : Kwdc u0 u)  : KwdE u0 (fb_M_message_222 N G u v1 v4 v5 v6 v10 v15 v16) := by
  unfold fb_M_message_222
  repeat' (first | with_reducible assumption | with_reducible refine Kwd_br ?_ ?_ | with_reducible refine Kwd_bnd ?_ (fun _ _ _ => ?_) | with_reducible refine Kwd_ck ?_ | with_reducible refine Kwd_ltm ?_ (fun _ _ => ?_) | with_reducible refine Kwd_some ?_ | with_reducible refine Kwd_bo (fun _ => ?_) | with_reducible refine Kwd_T ?_ (fun _ _ _ => ?_) | with_reducible refine Kwd_H ?_ (fun _ _ _ => ?_) (fun _ _ => ?_) | with_reducible exact ywd_fb_M_message_261 (by assumption) | with_reducible exact ywd_fm_M_term (by assumption) | with_reducible refine Kwd_ltv (fun _ => ?_) | with_reducible refine Kwd_I ?_ (by decide) | with_reducible refine Kwd_A ?_ (by decide) | with_reducible refine Kwd_J ?_ | with_reducible refine Kwd_L ?_)
theorem ywd_fb_M_message_193 {G : Unit} {v1 : Int32} {v2 : Int32} {v3 : Int32} {v4 : Int32} {v5 : Int32} {v6 : Int32} {v10 : Int64} {v15 : Int32} {v16 : Int32} {t0 : Nat} {t1 : Int32} {t2 : Int32} {t3 : Int32} (h : Kwdc u0 u)  : KwdE u0 (fb_M_message_193 N G u v1 v2 v3 v4 v5 v6 v10 v15 v16 t0 t1 t2 t3) := by
  unfold fb_M_message_193
  repeat' (first | with_reducible assumption | with_reducible refine Kwd_br ?_ ?_ | with_reducible refine Kwd_bnd ?_ (fun _ _ _ => ?_) | with_reducible refine Kwd_ck ?_ | with_reducible refine Kwd_ltm ?_ (fun _ _ => ?_) | with_reducible refine Kwd_some ?_ | with_reducible refine Kwd_bo (fun _ => ?_) | with_reducible refine Kwd_T ?_ (fun _ _ _ => ?_) | with_reducible refine Kwd_H ?_ (fun _ _ _ => ?_) (fun _ _ => ?_) | with_reducible exact ywd_fb_M_message_222 (by assumption) | with_reducible exact ywd_fm_M_term (by assumption) | with_reducible refine Kwd_ltv (fun _ => ?_) | with_reducible refine Kwd_I ?_ (by decide) | with_reducible refine Kwd_A ?_ (by decide) | with_reducible refine Kwd_J ?_ | with_reducible refine Kwd_L ?_)
theorem ywd_fb_M_message_136 {G : Unit} {v1 : Int32} {v2 : Int32} {v3 : Int32} {v4 : Int32} {v5 : Int32} {v6 : Int32} {v10 : Int64} {v15 : Int32} {t0 : Int32} (h : Kwdc u0 u)  : KwdE u0 (fb_M_message_136 N G u v1 v2 v3 v4 v5 v6 v10 v15 t0) := by
  unfold fb_M_message_136
  repeat' (first | with_reducible assumption | with_reducible refine Kwd_br ?_ ?_ | with_reducible refine Kwd_bnd ?_ (fun _ _ _ => ?_) | with_reducible refine Kwd_ck ?_ | with_reducible refine Kwd_ltm ?_ (fun _ _ => ?_) | with_reducible refine Kwd_some ?_ | with_reducible refine Kwd_bo (fun _ => ?_) | with_reducible refine Kwd_T ?_ (fun _ _ _ => ?_) | with_reducible refine Kwd_H ?_ (fun _ _ _ => ?_) (fun _ _ => ?_) | with_reducible exact ywd_fb_M_message_193 (by assumption) | with_reducible refine Kwd_ltv (fun _ => ?_) | with_reducible refine Kwd_I ?_ (by decide) | with_reducible refine Kwd_A ?_ (by decide) | with_reducible refine Kwd_J ?_ | with_reducible refine Kwd_L ?_)
theorem ywd_fb_M_message_50 {G : Unit} {v1 : Int32} {v2 : Int32} {v3 : Int32} {v4 : Int32} {v5 : Int32} {v6 : Int32} {v7 : Int64} {t0 : Int32} {t1 : Int32} (h : Kwdc u0 u)  : KwdE u0 (fb_M_message_50 N G u v1 v2 v3 v4 v5 v6 v7 t0 t1) := by
  unfold fb_M_message_50
  repeat' (first | with_reducible assumption | with_reducible refine Kwd_br ?_ ?_ | with_reducible refine Kwd_bnd ?_ (fun _ _ _ => ?_) | with_reducible refine Kwd_ck ?_ | with_reducible refine Kwd_ltm ?_ (fun _ _ => ?_) | with_reducible refine Kwd_some ?_ | with_reducible refine Kwd_bo (fun _ => ?_) | with_reducible refine Kwd_T ?_ (fun _ _ _ => ?_) | with_reducible refine Kwd_H ?_ (fun _ _ _ => ?_) (fun _ _ => ?_) | with_reducible exact ywd_fb_M_message_136 (by assumption) | with_reducible exact ywd_fb_M_message_261 (by assumption) | with_reducible exact ywd_fm_M_copySize (by assumption) | with_reducible exact ywd_fm_M_handNone (by assumption) | with_reducible exact ywd_fm_M_willEnd (by assumption) | with_reducible exact ywd_fm_M_wants (by assumption) | with_reducible exact ywd_fm_M_hand (by assumption) | with_reducible exact ywd_fm_M_term (by assumption) | with_reducible refine Kwd_ltv (fun _ => ?_) | with_reducible refine Kwd_I ?_ (by decide) | with_reducible refine Kwd_A ?_ (by decide) | with_reducible refine Kwd_J ?_ | with_reducible refine Kwd_L ?_)
theorem ywd_fb_M_message_40 {G : Unit} {v1 : Int32} {v2 : Int32} {v3 : Int32} {v4 : Int32} {v5 : Int32} {v6 : Int32} {v7 : Int64} {t0 : Int32} (h : Kwdc u0 u)  : KwdE u0 (fb_M_message_40 N G u v1 v2 v3 v4 v5 v6 v7 t0) := by
  unfold fb_M_message_40
  repeat' (first | with_reducible assumption | with_reducible refine Kwd_br ?_ ?_ | with_reducible refine Kwd_bnd ?_ (fun _ _ _ => ?_) | with_reducible refine Kwd_ck ?_ | with_reducible refine Kwd_ltm ?_ (fun _ _ => ?_) | with_reducible refine Kwd_some ?_ | with_reducible refine Kwd_bo (fun _ => ?_) | with_reducible refine Kwd_T ?_ (fun _ _ _ => ?_) | with_reducible refine Kwd_H ?_ (fun _ _ _ => ?_) (fun _ _ => ?_) | with_reducible exact ywd_fb_M_message_50 (by assumption) | with_reducible refine Kwd_ltv (fun _ => ?_) | with_reducible refine Kwd_I ?_ (by decide) | with_reducible refine Kwd_A ?_ (by decide) | with_reducible refine Kwd_J ?_ | with_reducible refine Kwd_L ?_)
theorem ywd_fb_M_message_21 {G : Unit} (h : Kwdc u0 u)  : KwdE u0 (fb_M_message_21 N G u) := by
  unfold fb_M_message_21
  repeat' (first | with_reducible assumption | with_reducible refine Kwd_br ?_ ?_ | with_reducible refine Kwd_bnd ?_ (fun _ _ _ => ?_) | with_reducible refine Kwd_ck ?_ | with_reducible refine Kwd_ltm ?_ (fun _ _ => ?_) | with_reducible refine Kwd_some ?_ | with_reducible refine Kwd_bo (fun _ => ?_) | with_reducible refine Kwd_T ?_ (fun _ _ _ => ?_) | with_reducible refine Kwd_H ?_ (fun _ _ _ => ?_) (fun _ _ => ?_) | with_reducible refine Kwd_ltv (fun _ => ?_) | with_reducible refine Kwd_I ?_ (by decide) | with_reducible refine Kwd_A ?_ (by decide) | with_reducible refine Kwd_J ?_ | with_reducible refine Kwd_L ?_)
theorem ywd_fb_M_message_0 {G : Unit} {v1 : Int32} {v2 : Int32} {v3 : Int32} {v4 : Int32} {v5 : Int32} {v6 : Int32} {v7 : Int64} (h : Kwdc u0 u)  : KwdE u0 (fb_M_message_0 N G u v1 v2 v3 v4 v5 v6 v7) := by
  unfold fb_M_message_0
  repeat' (first | with_reducible assumption | with_reducible refine Kwd_br ?_ ?_ | with_reducible refine Kwd_bnd ?_ (fun _ _ _ => ?_) | with_reducible refine Kwd_ck ?_ | with_reducible refine Kwd_ltm ?_ (fun _ _ => ?_) | with_reducible refine Kwd_some ?_ | with_reducible refine Kwd_bo (fun _ => ?_) | with_reducible refine Kwd_T ?_ (fun _ _ _ => ?_) | with_reducible refine Kwd_H ?_ (fun _ _ _ => ?_) (fun _ _ => ?_) | with_reducible exact ywd_fb_M_message_21 (by assumption) | with_reducible exact ywd_fb_M_message_40 (by assumption) | with_reducible refine Kwd_ltv (fun _ => ?_) | with_reducible refine Kwd_I ?_ (by decide) | with_reducible refine Kwd_A ?_ (by decide) | with_reducible refine Kwd_J ?_ | with_reducible refine Kwd_L ?_)
theorem ywd_fm_M_message {v1 : Int32} {v2 : Int32} {v3 : Int32} {v4 : Int32} {v5 : Int32} {v6 : Int32} {v7 : Int64} (h : Kwdc u0 u)  : KwdE u0 (fm_M_message N u v1 v2 v3 v4 v5 v6 v7) := by
  unfold fm_M_message
  exact ywd_fb_M_message_0 h
theorem ywd_fb_M_signal_61 {G : Unit} (h : Kwdc u0 u)  : KwdE u0 (fb_M_signal_61 N G u) := by
  unfold fb_M_signal_61
  repeat' (first | with_reducible assumption | with_reducible refine Kwd_br ?_ ?_ | with_reducible refine Kwd_bnd ?_ (fun _ _ _ => ?_) | with_reducible refine Kwd_ck ?_ | with_reducible refine Kwd_ltm ?_ (fun _ _ => ?_) | with_reducible refine Kwd_some ?_ | with_reducible refine Kwd_bo (fun _ => ?_) | with_reducible refine Kwd_T ?_ (fun _ _ _ => ?_) | with_reducible refine Kwd_H ?_ (fun _ _ _ => ?_) (fun _ _ => ?_) | with_reducible refine Kwd_ltv (fun _ => ?_) | with_reducible refine Kwd_I ?_ (by decide) | with_reducible refine Kwd_A ?_ (by decide) | with_reducible refine Kwd_J ?_ | with_reducible refine Kwd_L ?_)
theorem ywd_fb_M_signal_51 {G : Unit} {v1 : Int32} {v3 : Int32} {v4 : Int32} {v5 : Int64} (h : Kwdc u0 u)  : KwdE u0 (fb_M_signal_51 N G u v1 v3 v4 v5) := by
  unfold fb_M_signal_51
  repeat' (first | with_reducible assumption | with_reducible refine Kwd_br ?_ ?_ | with_reducible refine Kwd_bnd ?_ (fun _ _ _ => ?_) | with_reducible refine Kwd_ck ?_ | with_reducible refine Kwd_ltm ?_ (fun _ _ => ?_) | with_reducible refine Kwd_some ?_ | with_reducible refine Kwd_bo (fun _ => ?_) | with_reducible refine Kwd_T ?_ (fun _ _ _ => ?_) | with_reducible refine Kwd_H ?_ (fun _ _ _ => ?_) (fun _ _ => ?_) | with_reducible exact ywd_fb_M_signal_61 (by assumption) | with_reducible exact ywd_fm_M_willEnd (by assumption) | with_reducible refine Kwd_ltv (fun _ => ?_) | with_reducible refine Kwd_I ?_ (by decide) | with_reducible refine Kwd_A ?_ (by decide) | with_reducible refine Kwd_J ?_ | with_reducible refine Kwd_L ?_)
theorem ywd_fb_M_signal_0 {G : Unit} {v1 : Int32} {v2 : Int32} {v3 : Int32} {v4 : Int32} {v5 : Int64} (h : Kwdc u0 u)  : KwdE u0 (fb_M_signal_0 N G u v1 v2 v3 v4 v5) := by
  unfold fb_M_signal_0
  repeat' (first | with_reducible assumption | with_reducible refine Kwd_br ?_ ?_ | with_reducible refine Kwd_bnd ?_ (fun _ _ _ => ?_) | with_reducible refine Kwd_ck ?_ | with_reducible refine Kwd_ltm ?_ (fun _ _ => ?_) | with_reducible refine Kwd_some ?_ | with_reducible refine Kwd_bo (fun _ => ?_) | with_reducible refine Kwd_T ?_ (fun _ _ _ => ?_) | with_reducible refine Kwd_H ?_ (fun _ _ _ => ?_) (fun _ _ => ?_) | with_reducible exact ywd_fb_M_signal_51 (by assumption) | with_reducible exact ywd_fb_M_signal_61 (by assumption) | with_reducible exact ywd_fm_M_message (by assumption) | with_reducible exact ywd_fm_M_term (by assumption) | with_reducible refine Kwd_ltv (fun _ => ?_) | with_reducible refine Kwd_I ?_ (by decide) | with_reducible refine Kwd_A ?_ (by decide) | with_reducible refine Kwd_J ?_ | with_reducible refine Kwd_L ?_)
theorem ywd_fm_M_signal {v1 : Int32} {v2 : Int32} {v3 : Int32} {v4 : Int32} {v5 : Int64} (h : Kwdc u0 u)  : KwdE u0 (fm_M_signal N u v1 v2 v3 v4 v5) := by
  unfold fm_M_signal
  exact ywd_fb_M_signal_0 h
end
end
section
set_option maxRecDepth 100000
def RRx (p : Nat) (S : MS → MS → Prop) (q : Nat) (m w : MS) : Prop := (q = p ∧ S m w) ∨ (q ≠ p ∧ WTr q m w)
def RUw (p j : Nat) (nb : Nat → Nat) (Hs Os : Nat → List Nat) (y : Option (Nat × Nat × Nat)) (a n B W l : Nat) (m w : MS) : Prop := RUs m w p j nb Hs Os y a n ∧ F m (pq p 24) = ((B : Nat) : Int) ∧ F m (pq p 26) = ((W : Nat) : Int) ∧ F m (pq p 45) = ((l : Nat) : Int)
section
variable {b : Int → Nat → Nat → Prop} {Fv Fv' : Int64 → Int64 → Prop} {P P' : Int64 → Prop} {N PR q r p i j0 j U B W Y a n l : Nat} {m w m2 w2 : MS} {t x : Int64} {cur : Option Nat} {RR : Nat → MS → MS → Prop} {S : MS → MS → Prop} {nb : Nat → Nat} {Hs Os : Nat → List Nat} {y : Option (Nat × Nat × Nat)}
theorem RRx_stb (h : ∀ m w m2 w2, S m w → EQn p m m2 → EQv p w w2 → PGs m w m2 w2 → S m2 w2) : STBl (RRx p S) := fun q m w m2 w2 c h1 h2 pg => by
  rcases c with ⟨rfl, c⟩ | ⟨e, c⟩
  · exact Or.inl ⟨rfl, h m w m2 w2 c h1 h2 pg⟩
  · exact Or.inr ⟨e, WTr_st c h1 h2⟩
theorem RUw_st (h : RUw p j nb Hs Os y a n B W l m w) (h1 : EQn p m m2) (h2 : EQv p w w2) (pg : PGs m w m2 w2) : RUw p j nb Hs Os y a n B W l m2 w2 := by
  have f : ∀ k, k = 24 ∨ k = 26 ∨ k = 45 → F m2 (pq p k) = F m (pq p k) := fun k hk => congrArg Int32.toInt (h1.1 k (by omega) (by simp; omega))
  exact ⟨RUs_st h.1 h1 h2 pg, by rw [f 24 (by omega)]; exact h.2.1, by rw [f 26 (by omega)]; exact h.2.2.1, by rw [f 45 (by omega)]; exact h.2.2.2⟩
theorem WL_x (wl : WLs (RRp p) PR Fv P Fv' P' cur i j0 m w) (h : RUw p j nb Hs Os y a n B W l m w) : WLs (RRx p (RUw p j nb Hs Os y a n B W l)) PR Fv P Fv' P' cur i j0 m w := WL_mono wl (fun q c => by
  rcases c with ⟨e, -⟩ | c
  · exact Or.inl ⟨e, h⟩
  · exact Or.inr c) (RRx_stb (fun _ _ _ _ h h1 h2 pg => RUw_st h h1 h2 pg))
theorem WL_xp (wl : WLs (RRx p (RUw p j nb Hs Os y a n B W l)) PR Fv P Fv' P' cur i j0 m w) : WLs (RRp p) PR Fv P Fv' P' cur i j0 m w := WL_mono wl (fun q c => by
  rcases c with ⟨e, c⟩ | c
  · exact Or.inl ⟨e, j, nb, Hs, Os, y, a, n, c.1⟩
  · exact Or.inr c) RRp_stb
theorem WL_gone (hst : ∀ q m w m2 w2, RR q m w → EQn q m m2 → EQv q w w2 → RR q m2 w2) (wl : WLs RR PR Fv P Fv' P' cur i j0 m w) (s2 : SFs Fv P Fv' P' PR m2 w2) (h9 : F m (pq p 9) = 3) (h9w : A w 109 p = 3) (hp24 : p < 24) (f : FR [pq p 26, pq p 45, 1105] [] [] [pq p 35] m m2) (g : FR [] [] [92, 98] [91] w w2) (g92 : ∀ k, k ≠ p → A w2 92 k = A w 92 k) (g98 : ∀ k, ¬ (60 * p ≤ k ∧ k < 60 * p + 60) → A w2 98 k = A w 98 k) (g91 : ∀ k, ¬ (46000 * p ≤ k ∧ k < 46000 * p + 46000) → w2.2.2.2 91 k = w.2.2.2 91 k) : WLs RR PR Fv P Fv' P' cur i j0 m2 w2 := by
  have W0 := wl
  obtain ⟨sf, ⟨n0, q1, q2, -⟩, -, stb⟩ := id wl
  have ai : ∀ {x y : Int32}, x.toInt = y.toInt → x = y := fun h => Int32.toInt_inj.mp h
  have lm : ∀ d, d ≠ p → LOCm d m m2 := fun d hd k hk => ⟨f.1 _ (by
    simp only [List.mem_cons, List.not_mem_nil, or_false]
    intro c
    rcases c with c | c | c
    · exact hd (pq_e hk (by omega) c).1
    · exact hd (pq_e hk (by omega) c).1
    · exact pq_n (by omega) c.symm), f.2.1 _ (by simp), f.2.2.1 _ (by simp), f.2.2.2 _ (by
    simp only [List.mem_cons, List.not_mem_nil, or_false]
    intro c
    exact hd (pq_e hk (by omega) c).1)⟩
  have lw : ∀ d, d ≠ p → LOCw d w w2 := fun d hd => by
    refine ⟨fun K k h => ?_, fun K h => by rw [g.2.2.1 K (by simp; omega)], fun k _ _ => by rw [g.2.2.1 131 (by simp)], by rw [g.2.2.2 111 (by simp)], fun k _ _ => by rw [g.2.2.2 88 (by simp)], fun k h1 h2 => g91 k (by omega), fun k _ _ => by rw [g.2.2.2 93 (by simp)], fun k _ _ => by rw [g.2.2.2 107 (by simp)]⟩
    by_cases c : K = 92
    · subst c
      have ki : k = d := by
        rcases h with h | h | h | h
        · exact h.2
        · omega
        · omega
        · omega
      subst ki
      exact ai (g92 k hd)
    · by_cases c2 : K = 98
      · subst c2
        have ki : 60 * d ≤ k ∧ k < 60 * d + 60 := by
          rcases h with h | h | h | h
          · omega
          · exact h.2
          · omega
          · omega
        exact ai (g98 k (by omega))
      · rw [g.2.2.1 K (by simp; omega)]
  have own : ∀ k, k ≠ 26 → k ≠ 45 → m2.1 (pq p k) = m.1 (pq p k) := fun k h1 h2 => f.1 _ (by
    simp only [List.mem_cons, List.not_mem_nil, or_false]
    intro c
    rcases c with c | c | c
    · exact pq_inj h1 c
    · exact pq_inj h2 c
    · exact pq_n (by omega) c.symm)
  have own2 : ∀ k, k ≠ 35 → m2.2.2.2 (pq p k) = m.2.2.2 (pq p k) := fun k h => f.2.2.2 _ (by simp; exact pq_inj h)
  have pg : PG0 m w m2 w2 := PG0_fr f g (fun k hk => by simp at hk; unfold pq at hk; omega) (by simp) (by simp) (by simp [PRr]) (by simp)
  have f9 : ∀ d, F m2 (pq d 9) = F m (pq d 9) := fun d => by
    by_cases c : d = p
    · subst c; exact congrArg Int32.toInt (own 9 (by omega) (by omega))
    · exact congrArg Int32.toInt (lm d c 9 (by omega)).1
  have a9 : ∀ d, A w2 109 d = A w 109 d := fun d => FR.A g (by simp)
  have hp2 : ∀ d k, hp w2 d k = hp w d k := fun d k => by unfold hp; rw [g.2.2.2 88 (by simp)]
  have c2 : ∀ d, m2.2.2.2 (pq d 2) = m.2.2.2 (pq d 2) := fun d => by
    by_cases c : d = p
    · subst c; exact own2 2 (by omega)
    · exact (lm d c 2 (by omega)).2.2.2
  have c17 : ∀ d k, k = 5 ∨ k = 12 ∨ k = 13 ∨ k = 15 ∨ k = 17 → m2.1 (pq d k) = m.1 (pq d k) := fun d k hk => by
    by_cases c : d = p
    · subst c; exact own k (by omega) (by omega)
    · exact (lm d c k (by omega)).1
  have c16 : ∀ d, m2.2.1 (pq d 16) = m.2.1 (pq d 16) := fun d => f.2.1 _ (by simp)
  have c14 : ∀ d, m2.2.2.1 (pq d 14) = m.2.2.1 (pq d 14) := fun d => f.2.2.1 _ (by simp)
  refine WL_gen W0 s2 (fun d hd => ⟨by rw [f9]; exact hd, c2 d, c17 d 17 (by omega), c16 d⟩) (fun d _ => ⟨fun k _ => hp2 d k, FR.A g (by simp)⟩) (fun d hd => by rw [a9]; exact hd) (fun d _ _ _ h => ?_) (fun d _ _ h => ?_) (fun d hd x1 x2 x3 => Or.inl ⟨by rw [f9]; exact x1, by rw [a9]; exact x2, ?_⟩) ?_
  · obtain ⟨h1, h2, h3, L, l1, l2⟩ := h
    refine ⟨by rw [c17 d 12 (by omega), g.2.2.1 113 (by simp)]; exact h1, by rw [c17 d 13 (by omega), g.2.2.1 114 (by simp)]; exact h2, by rw [c17 d 5 (by omega), g.2.2.1 90 (by simp)]; exact h3, L, ?_, ?_⟩
    · unfold LSm at l1 ⊢
      have e15 : F m2 (pq d 15) = F m (pq d 15) := congrArg Int32.toInt (c17 d 15 (by omega))
      have e14 : ∀ k, A m2 (pq d 14) k = A m (pq d 14) k := fun k => by show (m2.2.2.1 (pq d 14) k).toInt = _; rw [c14]; rfl
      simp only [e15, e14]
      exact l1
    · unfold LSw at l2 ⊢
      have e17 : ∀ k, A w2 117 k = A w 117 k := fun k => FR.A g (by simp)
      have e16 : ∀ k, A w2 116 k = A w 116 k := fun k => FR.A g (by simp)
      simp only [e17, e16]
      exact l2
  · obtain ⟨h1, h2, h3, h4, h5, h6, h7⟩ := h
    refine ⟨by rw [f9]; exact h1, by rw [a9]; exact h2, ?_, ⟨by rw [c17 d 12 (by omega)]; exact h4.1, by rw [g.2.2.1 113 (by simp)]; exact h4.2⟩, by rw [c17 d 13 (by omega), g.2.2.1 114 (by simp)]; exact h5, by rw [c17 d 5 (by omega), g.2.2.1 90 (by simp)]; exact h6, ⟨(congrArg Int32.toInt (c17 d 15 (by omega))).trans h7.1, by rw [FR.A g (by simp)]; exact h7.2⟩⟩
    obtain ⟨hm, k, z, z1, z2, z3, z4, z5, z6, z7⟩ := h3
    have eA : ATc m2 = ATc m := pg.1.2.2
    have e22 : F m2 22 = F m 22 := congrArg Int32.toInt pg.1.2.1
    refine ⟨hm, k, z, by rw [c17 d 17 (by omega)]; exact z1, z2, by rw [f9]; exact z3, by rw [c2, c16, e22]; exact z4, z5, by rw [c2, c16, eA, FR.A g (by simp)]; exact z6, fun i2 hi2 => ?_⟩
    rw [c2, c16, eA] at hi2 ⊢
    rw [g.2.2.1 131 (by simp)]
    exact z7 i2 hi2
  · have dp : d ≠ p := fun c => x1 (by rw [c]; exact h9)
    obtain ⟨b, U, B, W, Y, pl, sc, rr⟩ := x3
    obtain ⟨-, -, ⟨b1, b2, b3⟩, b4⟩ := SF_al sf hd x1 pl
    have hU := pl.1.1.2.2
    have l1 := lm d dp
    have l2 := lw d dp
    refine ⟨b, U, B, W, Y, PLs_cg pl (fun k hk => (l1 k (by simp at hk; omega)).1) (fun i _ => by rw [(l1 2 (by omega)).2.2.2]) (fun i _ => by rw [(l1 33 (by omega)).2.2.2]) (fun i _ => by rw [(l1 35 (by omega)).2.2.2]) (fun i _ => by rw [(l1 6 (by omega)).2.2.2]) (fun k hk => ?_) (fun i hi => l2.2.2.2.2.1 _ (by omega) (by omega)) (fun i hi => l2.2.2.2.2.2.2.1 _ (by omega) (by omega)) (fun i hi => l2.2.2.2.2.2.1 _ (by omega) (by omega)) (fun i hi => l2.2.2.2.2.2.2.2 _ (by omega) (by omega)), SC_eq sc b4.2 (EQm_loc pg l1) (EQw_loc pg l2), hst d m w m2 w2 rr (EQm_loc pg l1).n (EQw_loc pg l2).v⟩
    simp only [List.mem_cons, List.not_mem_nil, or_false] at hk
    rcases hk with rfl | rfl | rfl | rfl | rfl
    · exact l2.2.1 89 (by omega)
    · exact l2.2.1 90 (by omega)
    · exact l2.1 92 d (Or.inl ⟨by omega, rfl⟩)
    · exact l2.1 94 d (Or.inl ⟨by omega, rfl⟩)
    · exact l2.2.1 108 (by omega)
  · exact ⟨i + n0, j0 + n0, q1, q2, fun k _ => FR.A f (by simp), fun k _ => ⟨fun K hK => FR.A g (by simp; omega), by rw [g.2.2.2 148 (by simp)]⟩, Or.inl ⟨by rw [FR.F f (by simp; unfold pq; omega)]; exact q1, by rw [FR.F g (by simp)]; exact q2⟩⟩
def NDs (PR : Nat) (m w : MS) : Prop := (F m 942 = ((PR : Nat) : Int) ∧ F w 118 = ((PR : Nat) : Int) ∧ PR ≤ 24) ∧ (∀ k, k < PR → rf (m.2.2.1 1948 k) = some k) ∧ ∀ k, k < PR → (F m (pq k 9) ≠ 3 ∧ A w 109 k ≠ 3 ∧ m.1 (pq k 12) = w.2.2.1 113 k) ∨ (F m (pq k 9) = 3 ∧ A w 109 k = 3)
theorem NDs_of (wl : WLs RR PR Fv P Fv' P' cur i j0 m w) : NDs PR m w := by
  obtain ⟨⟨⟨dwc, -⟩, ⟨dw, -⟩, -⟩, -, pr, -⟩ := id wl
  refine ⟨⟨dwc.1.1.1, dw.1.1, dw.1.2⟩, dwc.1.2.1, fun k hk => ?_⟩
  rcases pr k hk with ⟨x1, x2, b, U, B, W, Y, pl, sc, rr⟩ | ⟨x1, x2, -⟩
  · exact Or.inl ⟨x1, x2, sc.1⟩
  · exact Or.inr ⟨x1, x2⟩
theorem NDs_w (h : NDs PR m w) (h1 : w2.1 118 = w.1 118) (h2 : w2.2.2.1 109 = w.2.2.1 109) (h3 : w2.2.2.1 113 = w.2.2.1 113) : NDs PR m w2 := by
  obtain ⟨⟨a1, a2, a3⟩, a4, a5⟩ := h
  refine ⟨⟨a1, by show (w2.1 118).toInt = _; rw [h1]; exact a2, a3⟩, a4, fun k hk => ?_⟩
  have e : A w2 109 k = A w 109 k := by show (w2.2.2.1 109 k).toInt = _; rw [h2]; rfl
  rw [e, h3]
  exact a5 k hk
theorem named_lp {v : Int32} (nd : NDs PR m w) : ∀ (d M M2 k : Nat), k + d = PR → PP (fun m2 o w2 r => (m2 = m ∧ w2 = w) ∧ ((o = none ∧ r = I (-1)) ∨ ∃ q : Nat, q < PR ∧ o = some q ∧ r = I ((q : Nat) : Int) ∧ F m (pq q 9) ≠ 3 ∧ m.1 (pq q 12) = v)) (hg_Wl_named N M m v (I ((k : Nat) : Int))) (gg_M_namedBy N M2 w v (I ((k : Nat) : Int))) := by
  obtain ⟨⟨h942, h118, p24⟩, d1948, pr⟩ := nd
  intro d
  induction d with
  | zero =>
    intro M M2 k hk
    have : k = PR := by omega
    subst this
    cases M with
    | zero => exact pp_nl
    | succ M =>
    cases M2 with
    | zero => exact pp_nr
    | succ M2 =>
    show PP _ (hb_Wl_named_2 N (hg_Wl_named N M) m v (I ((k : Nat) : Int))) (fb_M_namedBy_2 N (gg_M_namedBy N M2) w v (I ((k : Nat) : Int)))
    unfold hb_Wl_named_2 fb_M_namedBy_2
    rw [I_F' h942, I_F' h118, show decide (I ((k : Nat) : Int) ≤ I ((k : Nat) : Int)) = true from decide_eq_true (Int32.le_refl _), br_tq, br_tq]
    exact pp_end ⟨⟨rfl, rfl⟩, Or.inl ⟨rfl, rfl⟩⟩
  | succ d ih =>
    intro M M2 k hk
    cases M with
    | zero => exact pp_nl
    | succ M =>
    cases M2 with
    | zero => exact pp_nr
    | succ M2 =>
    show PP _ (hb_Wl_named_2 N (hg_Wl_named N M) m v (I ((k : Nat) : Int))) (fb_M_namedBy_2 N (gg_M_namedBy N M2) w v (I ((k : Nat) : Int)))
    unfold hb_Wl_named_2 fb_M_namedBy_2 hb_Wl_named_39 fb_M_namedBy_32
    have on := ih M M2 (k + 1) (by omega)
    rw [I_F' h942, I_F' h118, decI (by omega) (by omega) (by omega) (by omega), show decide (((PR : Nat) : Int) ≤ ((k : Nat) : Int)) = false from decide_eq_false (by omega), br_fq, br_fq, tnI (n := k) rfl (by omega), d1948 k (by omega), show I ((k : Nat) : Int) + 1 = I ((k + 1 : Nat) : Int) from addN]
    refine l_ck (fun _ => r_ck (fun _ => ?_))
    rw [show decide ((some k : Option Nat) = none) = false from rfl, br_fq]
    show PP _ (br (decide ((m.1 (pq k 12)) = v)) (br (decide ((m.1 (pq k 9)) = 3)) (hg_Wl_named N M m v (I ((k + 1 : Nat) : Int))) (some (m, (some k)))) (hg_Wl_named N M m v (I ((k + 1 : Nat) : Int)))) _
    have r9 := F_r m (pq k 9)
    have w9 := A_r w 109 k
    rw [I_F (k := pq k 9), I_A (k := 109) (i := k), show (3 : Int32) = I 3 from rfl, decE r9.1 r9.2 (by omega) (by omega), decE w9.1 w9.2 (by omega) (by omega)]
    rcases pr k (by omega) with ⟨x1, x2, sc⟩ | ⟨x1, x2⟩
    · rw [decide_eq_false x1, decide_eq_false x2, br_fq, br_fq, sc]
      by_cases e : w.2.2.1 113 k = v
      · rw [decide_eq_true e, br_tq, br_tq]
        refine r_ck (fun _ => pp_end ⟨⟨rfl, rfl⟩, Or.inr ⟨k, by omega, rfl, rfl, x1, ?_⟩⟩)
        rw [sc]; exact e
      · rw [decide_eq_false e, br_fq, br_fq]
        exact on
    · rw [decide_eq_true x1, decide_eq_true x2, br_tq, br_tq]
      refine l_br (fun _ => ?_) (fun _ => ?_)
      · refine r_br (fun _ => r_ck (fun _ => ?_)) (fun _ => ?_)
        · exact on
        · exact on
      · refine r_br (fun _ => r_ck (fun _ => ?_)) (fun _ => ?_)
        · exact on
        · exact on
theorem named_pn {v : Int32} (nd : NDs PR m w) : PP (fun m2 o w2 r => (m2 = m ∧ w2 = w) ∧ ((o = none ∧ r = I (-1)) ∨ ∃ q : Nat, q < PR ∧ o = some q ∧ r = I ((q : Nat) : Int) ∧ F m (pq q 9) ≠ 3 ∧ m.1 (pq q 12) = v)) (hm_Wl_named N m v) (fm_M_namedBy N w v) := by
  unfold hm_Wl_named hb_Wl_named_0 fm_M_namedBy fb_M_namedBy_0
  exact named_lp (N := N) (v := v) nd PR N N 0 (by omega)
theorem named_pp {v : Int32} (wl : WLs RR PR Fv P Fv' P' cur i j0 m w) : PP (fun m2 o w2 r => (m2 = m ∧ w2 = w) ∧ ((o = none ∧ r = I (-1)) ∨ ∃ q : Nat, q < PR ∧ o = some q ∧ r = I ((q : Nat) : Int) ∧ F m (pq q 9) ≠ 3 ∧ m.1 (pq q 12) = v)) (hm_Wl_named N m v) (fm_M_namedBy N w v) := named_pn (NDs_of wl)
theorem find_e (dwc : DWc Fv P PR m) (hq : q < PR) : hm_Wl_find N m (I ((q : Nat) : Int)) = some (m, some q) := by
  have h942 : F m 942 = ((PR : Nat) : Int) := dwc.1.1.1
  have p24 : PR ≤ 24 := dwc.1.1.2
  unfold hm_Wl_find hb_Wl_find_0 hb_Wl_find_22
  rw [d_lt0 (by omega), br_fq, I_F' h942, show decide (I ((q : Nat) : Int) < I ((PR : Nat) : Int)) = true from decide_eq_true (by rw [I_lt (by omega) (by omega) (by omega) (by omega)]; omega), br_tq, (I_inb (by omega) (by omega)).mpr ⟨by omega, by omega⟩, ck_t, tnI (n := q) rfl (by omega), dwc.1.2.1 q hq]
end
end
section
set_option maxRecDepth 100000
section
variable {b : Int → Nat → Nat → Prop} {Fv Fv' : Int64 → Int64 → Prop} {P P' : Int64 → Prop} {N PR q r p i j U B W Y : Nat} {m w m2 w2 : MS} {cur : Option Nat}
theorem WL_ownt (wl : WLs (RRt p) PR Fv P Fv' P' cur i j m w) (hp : p < PR) (hal : F m (pq p 9) ≠ 3) (h9 : A w 109 p ≠ 3) (s2 : SFs Fv P Fv' P' PR m2 w2) (f : GGm p m m2) (g : GGw p w w2) (pl : PLs b p m2 w2 U B W Y) (sc2 : SCs p m2 w2) (al2 : F m2 (pq p 9) ≠ 3 ∧ A w2 109 p ≠ 3) : WLs (RRt p) PR Fv P Fv' P' cur i j m2 w2 := by
  have p24 := wl.1.2.1.1.1.2
  have D : ∀ d, d ≠ p → LOCm d m m2 ∧ LOCw d w w2 := fun d hd => ⟨f.1 d hd, g.1 d hd⟩
  have pg : PG0 m w m2 w2 := PG0_gg f g
  have dq : ∀ d, F m (pq d 9) = 3 → d ≠ p := fun d hd c => hal (by rw [← c]; exact hd)
  have dq2 : ∀ d, d = 24 ∨ A w 109 d = 3 → d ≠ p := fun d hd c => by
    rcases hd with hd | hd
    · omega
    · exact h9 (by rw [← c]; exact hd)
  have f9 : ∀ d, d ≠ p → F m2 (pq d 9) = F m (pq d 9) := fun d hd => congrArg Int32.toInt ((D d hd).1 9 (by omega)).1
  have a9 : ∀ d, d ≠ p → A w2 109 d = A w 109 d := fun d hd => congrArg Int32.toInt ((D d hd).2.1 109 d (Or.inl ⟨by omega, rfl⟩))
  have dm : ∀ d, F m (pq d 9) = 3 → F m2 (pq d 9) = 3 ∧ m2.2.2.2 (pq d 2) = m.2.2.2 (pq d 2) ∧ m2.1 (pq d 17) = m.1 (pq d 17) ∧ m2.2.1 (pq d 16) = m.2.1 (pq d 16) := fun d hd => ⟨by rw [f9 d (dq d hd)]; exact hd, ((D d (dq d hd)).1 2 (by omega)).2.2.2, ((D d (dq d hd)).1 17 (by omega)).1, ((D d (dq d hd)).1 16 (by omega)).2.1⟩
  refine WL_gen wl s2 dm (fun d hd => ⟨fun i hi => (D d (dq2 d hd)).2.2.2.2.2.1 _ (by omega) (by omega), congrArg Int32.toInt ((D d (dq2 d hd)).2.2.1 89 (by omega))⟩) (fun d hd => by rw [a9 d (dq2 d (Or.inr hd))]; exact hd) (fun r _ hr _ h => QEs_st h (D r (dq r hr)).1 (D r (dq r hr)).2) (fun r _ _ h => DEs_st h pg (D r (dq r h.1)).1 (D r (dq r h.1)).2 (fun d hd => ⟨(dm d hd).1, (dm d hd).2.1⟩)) (fun r hr x1 x2 x3 => ?_) ?_
  · by_cases rq : r = p
    · subst rq
      exact Or.inl ⟨al2.1, al2.2, b, U, B, W, Y, pl, sc2, Or.inl rfl⟩
    · obtain ⟨b, U, B, W, Y, pl, sc, rr⟩ := x3
      obtain ⟨-, -, ⟨b1, b2, b3⟩, b4⟩ := SF_al wl.1 hr x1 pl
      have hU := pl.1.1.2.2
      obtain ⟨l1, l2⟩ := D r rq
      refine Or.inl ⟨by rw [f9 r rq]; exact x1, by rw [a9 r rq]; exact x2, b, U, B, W, Y, PLs_cg pl (fun k hk => (l1 k (by simp at hk; omega)).1) (fun i _ => by rw [(l1 2 (by omega)).2.2.2]) (fun i _ => by rw [(l1 33 (by omega)).2.2.2]) (fun i _ => by rw [(l1 35 (by omega)).2.2.2]) (fun i _ => by rw [(l1 6 (by omega)).2.2.2]) (fun k hk => ?_) (fun i hi => l2.2.2.2.2.1 _ (by omega) (by omega)) (fun i hi => l2.2.2.2.2.2.2.1 _ (by omega) (by omega)) (fun i hi => l2.2.2.2.2.2.1 _ (by omega) (by omega)) (fun i hi => l2.2.2.2.2.2.2.2 _ (by omega) (by omega)), SC_eq sc b4.2 (EQm_loc pg l1) (EQw_loc pg l2), RRt_st rr (EQm_loc pg l1).n (EQw_loc pg l2).v⟩
      simp only [List.mem_cons, List.not_mem_nil, or_false] at hk
      rcases hk with rfl | rfl | rfl | rfl | rfl
      · exact l2.2.1 89 (by omega)
      · exact l2.2.1 90 (by omega)
      · exact l2.1 92 r (Or.inl ⟨by omega, rfl⟩)
      · exact l2.1 94 r (Or.inl ⟨by omega, rfl⟩)
      · exact l2.2.1 108 (by omega)
  · obtain ⟨n, q1, q2, -⟩ := wl.2.1
    refine ⟨i + n, j + n, q1, q2, fun k _ => ?_, fun k _ => ⟨fun K hK => ?_, by rw [g.2.2.2.2.1]⟩, Or.inl ⟨?_, ?_⟩⟩
    · show (m2.2.2.1 54 k).toInt = _
      rw [f.2.2.2.1]
      rfl
    · show (w2.2.2.1 K k).toInt = _
      rw [g.2.2.2.1 K hK]
      rfl
    · show (m2.1 955).toInt = _
      rw [f.2.2.1]
      exact q1
    · show (w2.1 150).toInt = _
      rw [g.2.2.1]
      exact q2
end
section
variable {p j a n : Nat} {m w m2 w2 : MS} {nb : Nat → Nat} {Hs Os : Nat → List Nat} {y : Option (Nat × Nat × Nat)}
theorem RUb_st (h : RUb m w p j nb Hs Os y) (h1 : EQn p m m2) (h2 : EQv p w w2) (pg : PGs m w m2 w2) : RUb m2 w2 p j nb Hs Os y := by
  obtain ⟨r1, ⟨r5, r6⟩, r7, ⟨r8, r9, r10⟩, r11, r12, r13⟩ := h
  have hj : j < 60 := r1.1.1.2.2
  obtain ⟨⟨⟨g1, -, -⟩, g4, g5, -⟩, g7, g8⟩ := pg
  have h23 : A m2 23 = A m 23 := by funext i; show (m2.2.2.1 23 i).toInt = _; rw [g1]; rfl
  have hRO := ROs_eq g4
  have hP : ∀ K, PRr K → A w2 K = A w K := fun K c => by funext i; show (w2.2.2.1 K i).toInt = _; rw [g4 K c]; rfl
  have fm : ∀ k, 1100 ≤ k → k < 1120 → F m2 k = F m k := fun k c1 c2 => congrArg Int32.toInt (g7 k c1 c2).1
  have fw : ∀ k, k = 133 ∨ (151 ≤ k ∧ k ≤ 165) → F w2 k = F w k := fun k c => congrArg Int32.toInt (g8 k c)
  have f8 : F m2 (pq p 8) = F m (pq p 8) := congrArg Int32.toInt (h1.1 8 (by omega) (by simp))
  refine ⟨FC_eq r1 h1 h2, ⟨?_, ?_⟩, ?_, ⟨by rw [fm 1108 (by omega) (by omega)]; exact r8, by rw [fm 1109 (by omega) (by omega)]; exact r9, by rw [fw 151 (by omega)]; exact r10⟩, by rw [fw 133 (by omega)]; exact r11, by rw [(g7 1106 (by omega) (by omega)).1, g8 165 (by omega)]; exact r12, by rw [(g7 1107 (by omega) (by omega)).1, g8 164 (by omega)]; exact r13⟩
  · show (m2.1 (pq p 9)).toInt = _
    rw [h1.1 9 (by omega) (by simp)]
    exact r5
  · show (w2.2.2.1 109 p).toInt = _
    rw [h2.1 109 p (Or.inl ⟨by omega, rfl⟩) (by omega) (by omega)]
    exact r6
  · rcases r7 with ⟨c1, c2, c3⟩ | ⟨kd, k, sc, c1, fl, W0, O0, X, c2, ⟨c3, c4, c5, c6⟩, ⟨c7, c8, c9, c10, c11⟩, c12, f2, g, c13⟩
    · exact Or.inl ⟨c1, by rw [fm 1112 (by omega) (by omega)]; exact c2, by rw [fw 152 (by omega)]; exact c3⟩
    · refine Or.inr ⟨kd, k, sc, c1, fl, W0, O0, X, c2, ⟨by rw [fm 1112 (by omega) (by omega)]; exact c3, c4, by rw [fm 1113 (by omega) (by omega)]; exact c5, by rw [fm 1114 (by omega) (by omega)]; exact c6⟩, ⟨by rw [fw 152 (by omega)]; exact c7, by rw [fw 153 (by omega)]; exact c8, by rw [fw 154 (by omega)]; exact c9, by rw [fw 156 (by omega)]; exact c10, by rw [fw 157 (by omega)]; exact c11⟩, fun e3 => ?_, f2, g, by rw [h23, hRO, g5, hP 45 (by unfold PRr; omega)]; exact c13⟩
      obtain ⟨d1, n2, d2, d3, d4, d5, g2, d6⟩ := c12 e3
      exact ⟨⟨by rw [fw 158 (by omega), f8]; exact d1.1, by rw [h1.2.1 10 (by omega) (by omega), h2.2.1]; exact d1.2⟩, n2, by rw [fw 159 (by omega)]; exact d2, by rw [fw 155 (by omega), hP 25 (by unfold PRr; omega)]; exact d3, by rw [hP 23 (by unfold PRr; omega)]; exact d4, by rw [hP 27 (by unfold PRr; omega)]; exact d5, g2, by rw [h23, hRO, g5]; exact d6⟩
end
def RUv (p j : Nat) (nb : Nat → Nat) (Hs Os : Nat → List Nat) (y : Option (Nat × Nat × Nat)) (a n B W l : Nat) (m w : MS) : Prop := RUb m w p j nb Hs Os y ∧ (F m 1105 = ((a : Nat) : Int) ∧ A w 98 (60 * p + j) = ((n : Nat) : Int)) ∧ F m (pq p 24) = ((B : Nat) : Int) ∧ F m (pq p 26) = ((W : Nat) : Int) ∧ F m (pq p 45) = ((l : Nat) : Int)
section
variable {b : Int → Nat → Nat → Prop} {Fv Fv' : Int64 → Int64 → Prop} {P P' : Int64 → Prop} {N PR q r p i j0 j U B W Y a n l : Nat} {m w m2 w2 : MS} {t x : Int64} {cur : Option Nat} {nb : Nat → Nat} {Hs Os : Nat → List Nat} {y : Option (Nat × Nat × Nat)} {v : Int}
theorem RUv_st (h : RUv p j nb Hs Os y a n B W l m w) (h1 : EQn p m m2) (h2 : EQv p w w2) (pg : PGs m w m2 w2) : RUv p j nb Hs Os y a n B W l m2 w2 := by
  have hj : j < 60 := h.1.1.1.1.2.2
  have f : ∀ k, k = 24 ∨ k = 26 ∨ k = 45 → F m2 (pq p k) = F m (pq p k) := fun k hk => congrArg Int32.toInt (h1.1 k (by omega) (by simp; omega))
  refine ⟨RUb_st h.1 h1 h2 pg, ⟨(congrArg Int32.toInt (pg.2.1 1105 (by omega) (by omega)).1).trans h.2.1.1, ?_⟩, by rw [f 24 (by omega)]; exact h.2.2.1, by rw [f 26 (by omega)]; exact h.2.2.2.1, by rw [f 45 (by omega)]; exact h.2.2.2.2⟩
  show (w2.2.2.1 98 (60 * p + j)).toInt = _
  rw [h2.1 98 _ (Or.inr (Or.inl ⟨⟨by omega, by omega⟩, by omega, by omega⟩)) (by omega) (by omega)]
  exact h.2.1.2
theorem WL_tv (wl : WLs (RRt p) PR Fv P Fv' P' cur i j0 m w) (h : RUv p j nb Hs Os y a n B W l m w) : WLs (RRx p (RUv p j nb Hs Os y a n B W l)) PR Fv P Fv' P' cur i j0 m w := WL_mono wl (fun q c => by
  by_cases e : q = p
  · exact Or.inl ⟨e, h⟩
  · rcases c with c | c
    · exact absurd c e
    · exact Or.inr ⟨e, c⟩) (RRx_stb (fun _ _ _ _ h h1 h2 pg => RUv_st h h1 h2 pg))
theorem WL_vt {S : MS → MS → Prop} (wl : WLs (RRx p S) PR Fv P Fv' P' cur i j0 m w) : WLs (RRt p) PR Fv P Fv' P' cur i j0 m w := WL_mono wl (fun q c => by
  rcases c with ⟨e, -⟩ | c
  · exact Or.inl e
  · exact Or.inr c.2) RRt_stb
theorem SFs_98 (sf : SFs Fv P Fv' P' PR m w) {k : Nat} {z : Int} : SFs Fv P Fv' P' PR m (wa w 98 k z) := by
  have g : FR [] [] [98] [] w (wa w 98 k z) := FR.wa FR.rf (by simp)
  obtain ⟨a, ⟨dw, lk, wt⟩, pb⟩ := sf
  exact ⟨a, ⟨DW_fr dw g (by simp) (by simp) (by simp) (by simp) (by simp) (by simp) (by simp) (by simp) (by simp) (by simp) (by simp) (by simp) (by simp) (by simp) (by simp) (by simp) (by simp), LK_fr lk g (by simp) (by simp), WTQ_fr wt g (by simp) (by simp) (by simp)⟩, pb⟩
theorem one_11 : fm_M_one N w (I v) (I 11) = bnd (fm_M_goTo N w (I v + 1)) (fun u7 _ => bnd (fm_M_otherRun N u7 (I v) (I 11)) (fun u8 _ => some (u8, ()))) := rfl
theorem oth_11 {z : Int32} : fm_M_otherRun N w z (I 11) = bnd (fm_M_sendRun N w) (fun u8 _ => some (u8, ())) := rfl
end
def WOs (m w m2 w2 : MS) : Prop := Kwac m m2 ∧ Kwbc w w2 ∧ ((∀ k, k = 49 ∨ k = 50 ∨ k = 51 → m2.2.2.1 k = m.2.2.1 k) ∧ m2.1 950 = m.1 950 ∧ m2.1 956 = m.1 956) ∧ (∀ k, k = 122 ∨ k = 123 ∨ k = 124 → w2.2.2.1 k = w.2.2.1 k) ∧ w2.1 125 = w.1 125 ∧ m2.1 1106 = m.1 1106 ∧ w2.1 165 = w.1 165
section
variable {m w m2 w2 m3 w3 : MS} {p j N : Nat} {v1 v3 v4 v4' v5 v6 : Int32} {v7 : Int64}
theorem WOs.tr (h1 : WOs m w m2 w2) (h2 : WOs m2 w2 m3 w3) : WOs m w m3 w3 := by
  obtain ⟨a1, a2, ⟨a3, a4, a5⟩, a6, a7, a8, a9⟩ := h1
  obtain ⟨c1, c2, ⟨c3, c4, c5⟩, c6, c7, c8, c9⟩ := h2
  exact ⟨⟨fun k h => (c1.1 k h).trans (a1.1 k h), fun K h => (c1.2 K h).trans (a1.2 K h)⟩, ⟨fun k h => (c2.1 k h).trans (a2.1 k h), fun K h => (c2.2 K h).trans (a2.2 K h)⟩, ⟨fun k h => (c3 k h).trans (a3 k h), c4.trans a4, c5.trans a5⟩, fun k h => (c6 k h).trans (a6 k h), c7.trans a7, c8.trans a8, c9.trans a9⟩
theorem WOs_gg (f : GGm p m m2) (g : GGw p w w2) : WOs m w m2 w2 := ⟨⟨fun k h => f.2.2.2.2.2.2 k (by omega), fun K h => f.2.2.2.2.2.1 K (by omega)⟩, ⟨fun k h => g.2.2.2.2.2.2 k (by omega), fun K h => g.2.2.2.2.2.1 K (by omega)⟩, ⟨fun k h => f.2.2.2.2.2.1 k (by omega), f.2.2.2.2.2.2 950 (by omega), f.2.2.2.2.1⟩, fun k h => g.2.2.2.2.2.1 k (by omega), g.2.2.2.2.2.2 125 (by omega), f.2.2.2.2.2.2 1106 (by omega), g.2.2.2.2.2.2 165 (by omega)⟩
theorem msg2_50 {t0 t1 : Int32} : fb_M_message_50 N () w v1 2 v3 v4 v5 v6 v7 t0 t1 = fb_M_message_50 N () w v1 2 v3 v4' v5 v6 v7 t0 t1 := by
  have d2 : decide ((2 : Int32) ≤ 2) = true := by decide
  have bt : ∀ (p q : Option (MS × Unit)), br true p q = p := fun p q => by rw [br_tq]
  unfold fb_M_message_50
  simp only [d2, bt]
theorem msg2_40 {t0 : Int32} : fb_M_message_40 N () w v1 2 v3 v4 v5 v6 v7 t0 = fb_M_message_40 N () w v1 2 v3 v4' v5 v6 v7 t0 := by
  unfold fb_M_message_40
  rw [msg2_50 (v4 := v4) (v4' := v4') (t1 := 0), msg2_50 (v4 := v4) (v4' := v4') (t1 := 3)]
theorem msg2_0 : fm_M_message N w v1 2 v3 v4 v5 v6 v7 = ck (inb v1 (ln 109)) (br (decide ((w.2.2.1 109 v1.toNatClampNeg) = 3)) (fb_M_message_21 N () w) (ck (inb v1 (ln 108)) (br (decide ((w.2.2.1 108 v1.toNatClampNeg) = 30)) (fb_M_message_21 N () w) (fb_M_message_40 N () w v1 2 v3 v4 v5 v6 v7 0)))) := by
  have d0 : decide ((2 : Int32) = 0) = false := by decide
  have d1 : decide ((2 : Int32) = 1) = false := by decide
  unfold fm_M_message fb_M_message_0
  rw [d0, d1, br_fq, br_fq]
theorem msg2 : fm_M_message N w v1 2 v3 v4 v5 v6 v7 = fm_M_message N w v1 2 v3 v4' v5 v6 v7 := by
  rw [msg2_0, msg2_0, msg2_40 (v4 := v4) (v4' := v4')]
end
section
variable {α β : Type} {b : Int → Nat → Nat → Prop} {Fv Fv' : Int64 → Int64 → Prop} {P P' : Int64 → Prop} {N PR q p i j0 j U B W Y a n l : Nat} {m w : MS} {nb : Nat → Nat} {Hs Os : Nat → List Nat} {y : Option (Nat × Nat × Nat)} {Q : MS → α → MS → β → Prop} {K1 : MS → Option (MS × α)} {K2 : MS → Option (MS × β)}
theorem op_send (hpp : p < PR) (wl : WLs (RRp p) PR Fv P Fv' P' none i j0 m w) (pl : PLs b p m w U B (W + 2) Y) (ru : RUs m w p j nb Hs Os y a n) (hP4 : so (m.2.2.2 (pq p 35) W) = 4 → 0 ≤ va (m.2.2.2 (pq p 35) W) ∧ va (m.2.2.2 (pq p 35) W) < ((PR : Nat) : Int)) (cr : ∃ f, CRs (A m 23) (ROs w) (w.2.2.2 34) f y (a + 1) (n + 1) (Hs j) (Os j)) (hN : 3000000 ≤ N)
    (kX : PP Q (K1 (tld m 1 (-1) (mk 1 11))) (bnd (fr_M_error N (wa w 98 (60 * p + j) ((n + 1 : Nat) : Int)) 11) (fun u _ => K2 u)))
    (kA : ∀ b3 U3 Y3 m3 w3, (SFs Fv P Fv' P' PR m3 w3 → WLs (RRp p) PR Fv P Fv' P' none i j0 m3 w3) → PLs b3 p m3 w3 U3 B (W + 1) Y3 → RUs m3 w3 p j nb Hs Os y (a + 1) (n + 1) → WOs m w m3 w3 → PP Q (K1 m3) (K2 w3))
    (kD : ∀ m3 w3, (SFs Fv P Fv' P' PR m3 w3 → WLs (RRt p) PR Fv P Fv' P' none i j0 m3 w3) → F m3 (pq p 9) = 3 → A w3 109 p = 3 → WOs m w m3 w3 → (F m3 1109 = 0 ∧ F w3 133 = ((p : Nat) : Int)) → PP Q (K1 m3) (K2 w3)) : PP Q (bnd (hm_Ma_value N m p (I 17)) (fun u _ => K1 u)) (bnd (fm_M_one N w (I ((n : Nat) : Int)) (I 11)) (fun u _ => K2 u)) := by
  obtain ⟨⟨fa, ct⟩, ⟨r2, r3⟩, ⟨f0, cr0⟩, ⟨r5, r6⟩, r7, ⟨r8, r9, r10⟩, r11, r12, r13⟩ := id ru
  have cb := CR_b cr0
  have hj : j < 60 := fa.1.2.2
  have sf := wl.1
  have p24 : PR ≤ 24 := sf.2.1.1.1.2
  have hp24 : p < 24 := by omega
  have hal : F m (pq p 9) ≠ 3 := by rw [r5]; omega
  have hal' : A w 109 p ≠ 3 := by rw [r6]; omega
  obtain ⟨⟨ow, kd, pt⟩, ⟨ow', kd', cw⟩, ⟨bW, bB, bY⟩, b15⟩ := SF_al sf hpp hal pl
  obtain ⟨l, e45, lw, lm⟩ := pt.2.2.2.2.2.1
  have sc : SCs p m w := by
    rcases wl.2.2.1 p hpp with ⟨-, -, _, _, _, _, _, _, sc, -⟩ | ⟨x, -⟩
    · exact sc
    · exact absurd x hal
  rw [val17, one_11, I_F' r2, show I ((a : Nat) : Int) + 1 = I ((a + 1 : Nat) : Int) from addN, Co_e (k := a + 1) rfl (by omega), bnd_so, show I ((n : Nat) : Int) + 1 = I ((n + 1 : Nat) : Int) from addN]
  refine l_bb (r_bb ?_)
  refine r_bnd (pk_mo (goto_r (N := N) (n := ((n + 1 : Nat) : Int)) hp24 r11 fa.1.2.1 hj) (fun w1 _ e => ?_))
  subst e
  rw [oth_11]
  refine r_bb (r_bb ?_)
  have g1 : FGw p j w (wa w 98 (60 * p + j) ((n + 1 : Nat) : Int)) := FGw.goto
  generalize hw1 : wa w 98 (60 * p + j) ((n + 1 : Nat) : Int) = w1 at g1 kX
  have pl1 : PLs b p m w1 U B (W + 2) Y := by rw [← hw1]; exact PLs_98 pl
  have x33 : F w1 133 = ((p : Nat) : Int) := by rw [← hw1]; exact r11
  have x98 : A w1 98 (60 * p + j) = ((n + 1 : Nat) : Int) := by rw [← hw1, wa_sm (by omega) (by omega)]
  have x92 : A w1 92 p = ((W + 2 : Nat) : Int) := pl1.2.2.1.2.1
  have sf1 : SFs Fv P Fv' P' PR m w1 := by rw [← hw1]; exact SFs_98 sf
  have a9 : A w1 109 p ≠ 3 := by rw [← hw1, wa_rne (by omega)]; exact hal'
  have W1 : WLs (RRt p) PR Fv P Fv' P' none i j0 m w1 := WL_ownt (WL_t wl) hpp hal hal' sf1 GGm.rf (GGw_fg g1 hj) pl1 (SC_fg sc FGm.rf g1) ⟨hal, a9⟩
  have rb1 : RUb m w1 p j nb Hs Os y := RUb_fg (RUs_b ru) FGm.rf g1
  have Wv := WL_tv (l := l) W1 (⟨rb1, ⟨r2, x98⟩, pl.2.1.1, pl.2.2.1.1, e45⟩ : RUv p j nb Hs Os y a (n + 1) B (W + 2) l m w1)
  have be : ∀ k, k < 2 → hm_Fr_below N m p (I ((k : Nat) : Int)) = some (m, m.2.2.2 (pq p 35) (W + 2 - 1 - k)) := fun k hk => below_e (N := N) (k := k) (W := W + 2) (l := l) pl.2.2.1.1 e45 lw lm rfl (by omega)
  have be0 : hm_Fr_below N m p 0 = some (m, m.2.2.2 (pq p 35) (W + 1)) := be 0 (by omega)
  have be1 : hm_Fr_below N m p 1 = some (m, m.2.2.2 (pq p 35) W) := be 1 (by omega)
  have go : ∀ q, q < PR → PP Q (bnd (hb_Ma_sendTo_34 N () m p (some q)) (fun u r => bnd (some (u, ())) (fun u _ => K1 u))) (bnd (fb_M_sendRun_41 N () w1 (I ((q : Nat) : Int))) (fun u r => bnd (some (u, ())) (fun u r => bnd (some (u, ())) (fun u _ => K2 u)))) := fun q hq => by
    unfold hb_Ma_sendTo_34 fb_M_sendRun_41
    rw [show decide ((some q : Option Nat) = none) = false from rfl, br_fq, show (-1 : Int32) = I (-1) from rfl, decE (by omega) (by omega) (by omega) (by omega), show decide (((q : Nat) : Int) = -1) = false from decide_eq_false (by omega), br_fq, be0, bnd_so]
    refine rb_bnd (pk_mo (top_r (N := N) (k := 0) hp24 x33 x92 (by omega) (by omega)) (fun w2 r e => ?_))
    obtain ⟨rfl, rfl⟩ := e
    have ws := wl_send (N := N) (a := 0) (sort := 2) (v4 := 0) (Wt := W + 1) (q := q) (Or.inl ⟨rfl, rfl⟩) Wv (fun c h => by cases h) hq hpp hal pl1 ⟨by omega, by omega⟩ hN
    have ws' : PP (fun m2 (_ : Unit) w3 (_ : Unit) => WLs (RRx p (RUv p j nb Hs Os y a (n + 1) B (W + 2) l)) PR Fv P Fv' P' none i j0 m2 w3 ∧ MVs m w2 m2 w3 ∧ ∀ d, d ≠ q → LOCm d m m2 ∧ LOCw d w2 w3) (hm_Wl_post N m q 0 (Int32.ofNat p) 0 (m.2.2.2 (pq p 35) (W + 1)) (some p)) (fm_M_message N w2 (I ((q : Nat) : Int)) 2 0 0 0 (w2.1 133) (w2.2.2.2 91 (46000 * p + (W + 2 - 1 - 0)))) := by
      rw [oI, I_F' x33, msg2 (v4' := I ((p : Nat) : Int))]
      exact ws
    show PP Q (bnd (bnd (hm_Wl_post N m q 0 (Int32.ofNat p) 0 (m.2.2.2 (pq p 35) (W + 1)) (some p)) (fun u9 _ => bnd (hm_Fr_below N u9 p 0) (fun u12 r12 => bnd (hm_Ma_answer N u12 p 2 r12) (fun u14 _ => lt (upI u14 1105 ((u14.1 1105) + 1)) (fun w16 => some (w16, ())))))) (fun u r => bnd (some (u, ())) (fun u _ => K1 u))) _
    refine l_bb (r_bb ?_)
    refine pp_bb (fun m2 _ w3 _ e1 e2 => ?_)
    obtain ⟨W2, mv, loc⟩ := ws' m2 _ w3 _ e1 e2
    have ka : Kwac m m2 := ywa_hm_Wl_post Kwa_rf m2 () e1
    have kb : Kwbc w2 w3 := ywb_fm_M_message Kwb_rf w3 () e2
    have kc : Kwcc m m2 := ywc_hm_Wl_post Kwc_rf m2 () e1
    have kd2 : Kwdc w2 w3 := ywd_fm_M_message Kwd_rf w3 () e2
    have f26 : F m2 (pq p 26) = ((W + 2 : Nat) : Int) := (congrArg Int32.toInt (kc (pq p 26) ⟨by unfold pq; omega, by unfold pq; omega⟩)).trans pl.2.2.1.1
    have f45 : F m2 (pq p 45) = ((l : Nat) : Int) := (congrArg Int32.toInt (kc (pq p 45) ⟨by unfold pq; omega, by unfold pq; omega⟩)).trans e45
    have g33 : F w3 133 = ((p : Nat) : Int) := (congrArg Int32.toInt (mv.1.2.2 133 (by omega))).trans x33
    have g92 : A w3 92 p = ((W + 1 + 1 : Nat) : Int) := by
      show (w3.2.2.1 92 p).toInt = _
      rw [kd2 92 (by omega)]
      exact x92
    have f05 : F m2 1105 = ((a : Nat) : Int) := (congrArg Int32.toInt (mv.1.2.1 1105 (by omega) (by omega)).1).trans r2
    have f09 : F m2 1109 = 0 := (congrArg Int32.toInt (mv.1.2.1 1109 (by omega) (by omega)).1).trans r9
    have be2 : hm_Fr_below N m2 p 0 = some (m2, m2.2.2.2 (pq p 35) (W + 1)) := below_e (N := N) (x := 0) (k := 0) (W := W + 2) (l := l) f26 f45 lw lm rfl (by omega)
    rw [be2, bnd_so]
    unfold hm_Ma_answer hb_Ma_answer_0
    rw [show (2 : Int32) = I 2 from rfl, drop_e (W := W + 2) (k := 2) (x := 2) f26 rfl (by omega), bnd_so, Nat.add_sub_cancel]
    refine l_bb (l_bb ?_)
    have e26' : F (wi m2 (pq p 26) ((W : Nat) : Int)) (pq p 26) = ((W : Nat) : Int) := wi_sm (by omega) (by omega)
    have e45' : F (wi m2 (pq p 26) ((W : Nat) : Int)) (pq p 45) = ((l : Nat) : Int) := by rw [wi_ne (pq_inj (by omega))]; exact f45
    refine l_bnd (pk_mo (push_m (N := N) (t := m2.2.2.2 (pq p 35) (W + 1)) e26' e45' (by omega) lm) (fun m8 _ h => ?_))
    obtain ⟨z1, z2, z3⟩ := h
    have h05 : F m8 1105 = ((a : Nat) : Int) := by rw [FR.F z1 (by simp [pq_n]), wi_ne (pq_n (by omega))]; exact f05
    rw [bnd_so, I_F' h05, show I ((a : Nat) : Int) + 1 = I ((a + 1 : Nat) : Int) from addN, wi_e]
    refine r_bb ?_
    refine r_bnd (pk_mo (take_r (N := N) (W := W + 1) hp24 g33 g92 (by omega)) (fun w4 r e => ?_))
    obtain ⟨rfl, rfl⟩ := e
    refine r_bb ?_
    have g33' : F (wa w3 92 p ((W + 1 : Nat) : Int)) 133 = ((p : Nat) : Int) := g33
    refine r_bnd (pk_mo (take_r (N := N) (W := W) hp24 g33' (wa_sm (by omega) (by omega)) (by omega)) (fun w5 r e => ?_))
    obtain ⟨rfl, rfl⟩ := e
    refine r_bb ?_
    have g33'' : F (wa (wa w3 92 p ((W + 1 : Nat) : Int)) 92 p ((W : Nat) : Int)) 133 = ((p : Nat) : Int) := g33
    refine r_bnd (pk_mo (put_r (N := N) (W := W) (x := w3.2.2.2 91 (46000 * p + (W + 1))) hp24 g33'' (wa_sm (by omega) (by omega)) (by omega)) (fun w6 _ e => ?_))
    subst e
    show PP Q (K1 (wi m8 1105 ((a + 1 : Nat) : Int))) (K2 (wa (wj (wa (wa w3 92 p ((W + 1 : Nat) : Int)) 92 p ((W : Nat) : Int)) 91 (46000 * p + W) (w3.2.2.2 91 (46000 * p + (W + 1)))) 92 p ((W + 1 : Nat) : Int)))
    have fm3 : FGm p m2 (wi m8 1105 ((a + 1 : Nat) : Int)) := FGm.tr (FGm.tr FGm.drop (FGm.push z1)) FGm.pc
    have fw3 : FGw p j w3 (wa (wj (wa (wa w3 92 p ((W + 1 : Nat) : Int)) 92 p ((W : Nat) : Int)) 91 (46000 * p + W) (w3.2.2.2 91 (46000 * p + (W + 1)))) 92 p ((W + 1 : Nat) : Int)) := FGw.tr (FGw.tr FGw.w92 FGw.w92) (FGw.put (by omega))
    have wo1 : WOs m w m w2 := WOs_gg GGm.rf (GGw_fg g1 hj)
    have wo2 : WOs m w2 m2 w3 := ⟨ka, kb, mv.2.2.2.1, mv.2.2.2.2.1, mv.2.2.2.2.2.1, (mv.1.2.1 1106 (by omega) (by omega)).1, mv.1.2.2 165 (by omega)⟩
    have wo3 : WOs m w (wi m8 1105 ((a + 1 : Nat) : Int)) (wa (wj (wa (wa w3 92 p ((W + 1 : Nat) : Int)) 92 p ((W : Nat) : Int)) 91 (46000 * p + W) (w3.2.2.2 91 (46000 * p + (W + 1)))) 92 p ((W + 1 : Nat) : Int)) := WOs.tr (WOs.tr wo1 wo2) (WOs_gg (GGm_fg fm3) (GGw_fg fw3 hj))
    rcases W2.2.2.1 p hpp with ⟨x1, x2, b', U', B', W', Y', pl', sc', rr⟩ | ⟨x1, x2, -⟩
    · have rv : RUv p j nb Hs Os y a (n + 1) B (W + 2) l m2 w3 := by
        rcases rr with ⟨-, rr⟩ | ⟨c, -⟩
        · exact rr
        · exact absurd rfl c
      have eW : W' = W + 2 := by
        have h1 := pl'.2.2.1.1
        rw [f26] at h1
        omega
      have eB : B' = B := by
        have h1 := pl'.2.1.1
        have h2 := rv.2.2.1
        omega
      subst eW eB
      have pd := PLs_drop (k := 2) (W := W) pl' (by omega)
      have pd2 : PLs b' p (wi m2 (pq p 26) ((W : Nat) : Int)) (wa (wa w3 92 p ((W + 1 : Nat) : Int)) 92 p ((W : Nat) : Int)) U' B' W Y' := PLs_cg pd (fun _ _ => rfl) (fun _ _ => rfl) (fun _ _ => rfl) (fun _ _ => rfl) (fun _ _ => rfl) (fun k hk => by
        by_cases c : k = 92
        · subst c
          rw [wa_s1, wa_s1]
        · rw [wa_at (by omega), wa_at (by omega), wa_at (by omega)]) (fun _ _ => rfl) (fun _ _ => rfl) (fun _ _ => rfl) (fun _ _ => rfl)
      have pl3 := PLs_pc (z := ((a + 1 : Nat) : Int)) (PLs_push (x := w3.2.2.2 91 (46000 * p + (W + 1))) pd2 (pl'.2.2.1.2.2 (W + 1) (by omega)) z1 z2 z3)
      obtain ⟨q1, ⟨q5, q6⟩, q7, ⟨q8, q9, q10⟩, q11, q12, q13⟩ := rv.1
      have h23 : A m2 23 = A m 23 := by funext k; show (m2.2.2.1 23 k).toInt = _; rw [mv.1.1.1.1]; rfl
      have hRO : ROs w3 = ROs w := (ROs_eq mv.1.1.2.1).trans (ROs_eq (GGw_fg g1 hj).2.1.1)
      have h34 : w3.2.2.2 34 = w.2.2.2 34 := mv.1.1.2.2.1.trans (GGw_fg g1 hj).2.1.2.1
      have ru3 := RUs_mk (a2 := a + 1) (n2 := n + 1) q1 q5 q6 q7 q8 q9 q10 q11 q12 q13 fm3 fw3 (wi_sm (by omega) (by omega)) (by rw [wa_rne (by omega), A_wj, wa_rne (by omega), wa_rne (by omega)]; exact rv.2.1.2) (by rw [h23, hRO, h34]; exact cr)
      exact kA b' U' Y' _ _ (fun s3 => WL_own (WL_vt W2) hpp x1 x2 s3 (GGm_fg fm3) (GGw_fg fw3 hj) pl3 (SC_fg sc' fm3 fw3) ru3) pl3 ru3 wo3
    · refine kD _ _ (fun s3 => WL_gone (fun _ _ _ _ _ h h1 h2 => RRt_st h h1 h2) (WL_vt W2) s3 x1 x2 hp24 (FR.wi (FR.tr (FR.wi FR.rf (by simp)) (FR.mo z1 (by simp) (by simp) (by simp) (by simp))) (by simp)) (FR.wa (FR.wj (FR.wa (FR.wa FR.rf (by simp)) (by simp)) (by simp)) (by simp)) (fun k hk => ?_) (fun k _ => ?_) (fun k hk => ?_)) ?_ ?_ wo3 ⟨?_, g33⟩
      · exact (fw3.2.1 k hk).2.2
      · rw [wa_rne (by omega), A_wj, wa_rne (by omega), wa_rne (by omega)]
      · exact fw3.2.2.2.2.1 k hk
      · show ((wi m8 1105 ((a + 1 : Nat) : Int)).1 (pq p 9)).toInt = _
        rw [wi_1 (fun c => pq_n (by omega) c.symm), z1.1 _ (by simp; exact ⟨pq_inj (by omega), pq_inj (by omega)⟩), wi_1 (pq_inj (by omega))]
        exact x1
      · rw [FR.A fw3.1 (by simp)]
        exact x2
      · rw [wi_ne (by omega), FR.F z1 (by simp [pq_n]), wi_ne (pq_n (by omega))]
        exact f09
  have no : PP Q (bnd (hb_Ma_sendTo_34 N () m p none) (fun u r => bnd (some (u, ())) (fun u _ => K1 u))) (bnd (fb_M_sendRun_41 N () w1 (I (-1))) (fun u r => bnd (some (u, ())) (fun u r => bnd (some (u, ())) (fun u _ => K2 u)))) := by
    unfold hb_Ma_sendTo_34 fb_M_sendRun_41
    rw [show decide ((none : Option Nat) = none) = true from rfl, br_tq, show decide (I (-1) = -1) = true from rfl, br_tq]
    refine r_bb ?_
    exact kX
  unfold hm_Ma_sendTo hb_Ma_sendTo_0 fm_M_sendRun fb_M_sendRun_0
  rw [be1, bnd_so, e_tag, bnd_so]
  refine rb_bnd (pk_mo (top_r (N := N) (k := 1) hp24 x33 x92 (by omega) (by omega)) (fun w2 r e => ?_))
  obtain ⟨rfl, rfl⟩ := e
  have rt : RTb b (m.2.2.2 (pq p 35) W) (w2.2.2.2 91 (46000 * p + (W + 2 - 1 - 1))) := pl1.2.2.1.2.2 W (by omega)
  have gx : GT U ow' kd' P' (w2.2.2.2 91 (46000 * p + (W + 2 - 1 - 1))) := by
    have h34 : w2.2.2.2 91 = w.2.2.2 91 := by rw [← hw1]; rfl
    rw [h34]
    exact cw.2.2.2.2.2.2.2.1 W (by omega)
  generalize hx : w2.2.2.2 91 (46000 * p + (W + 2 - 1 - 1)) = x at rt gx ⊢
  generalize ht : m.2.2.2 (pq p 35) W = t at rt be1 hP4 ⊢
  have sx := RTb_so rt
  rw [sortOf_e, bnd_so, sx, show (1 : Int32) = I 1 from rfl, show (4 : Int32) = I 4 from rfl, decE (so_r _).1 (so_r _).2 (by omega) (by omega), decE (so_r _).1 (so_r _).2 (by omega) (by omega)]
  by_cases c1 : so t = 1
  · have xt : x = t := RTb_n rt (by unfold isH; omega)
    rw [show decide (so t = 1) = true from decide_eq_true c1, br_tq, show decide (so t = 4) = false from decide_eq_false (by omega), br_fq, sortOf_e, bnd_so, sx, decE (so_r _).1 (so_r _).2 (by omega) (by omega), show decide (so t = 1) = true from decide_eq_true c1, br_tq, valueOf_e, bnd_so, xt, valI]
    refine l_bb (r_bb ?_)
    refine pp_bb (pp_mo (named_pp (N := N) (v := I (va t)) W1) (fun m3 o w3 r h => ?_))
    obtain ⟨⟨rfl, rfl⟩, ⟨rfl, rfl⟩ | ⟨q, hq, rfl, rfl, -⟩⟩ := h
    · exact no
    · exact go q hq
  · rw [show decide (so t = 1) = false from decide_eq_false c1, br_fq]
    unfold hm_Ma_processAt hb_Ma_processAt_0 hb_Ma_processAt_30
    rw [show hm_Fr_below N m p (I 1) = hm_Fr_below N m p 1 from rfl, be1, bnd_so, e_tag, bnd_so, show (4 : Int32) = I 4 from rfl, decE (so_r _).1 (so_r _).2 (by omega) (by omega)]
    by_cases c4 : so t = 4
    · have xt : x = t := RTb_n rt (by unfold isH; omega)
      have hP : P' t := by
        rcases gx with ⟨-, h⟩ | ⟨h, -⟩
        · rw [← xt]; exact h
        · unfold isH at h; rw [xt] at h; omega
      obtain ⟨v1, v2⟩ := hP4 c4
      obtain ⟨q, hq⟩ : ∃ q : Nat, va t = ((q : Nat) : Int) := ⟨(va t).toNat, by omega⟩
      rw [show decide (so t = 4) = true from decide_eq_true c4, br_tq, br_tq, valI, hq, find_e (q := q) sf.1.1 (by omega), bnd_so, bnd_so, valueOf_e, bnd_so, xt, hq]
      exact go q (by omega)
    · rw [show decide (so t = 4) = false from decide_eq_false c4, br_fq, br_fq, bnd_so, sortOf_e, bnd_so, sx, decE (so_r _).1 (so_r _).2 (by omega) (by omega), show decide (so t = 1) = false from decide_eq_false c1, br_fq]
      exact no
end
end
section
set_option maxRecDepth 100000
def tsB (N : Nat) (u : MS) (p : Nat) (z : Int32) : Option (MS × Unit) := bnd (hm_Ma_truth N u z) (fun u1 r1 => bnd (hm_Ma_answer N u1 p 1 r1) (fun u2 _ => some (u2, ())))
def tsR (N : Nat) (u : MS) (z : Int32) : Option (MS × Unit) := bnd (fm_M_truth N u z) (fun u2 r2 => bnd (fm_M_put N u2 r2) (fun u3 _ => some (u3, ())))
def tsM (N : Nat) (u : MS) (p : Nat) (F : Int32 → (Int32 → Option (MS × Unit)) → Option (MS × Unit)) : Option (MS × Unit) := bnd (bnd (hm_Fr_below N u p 0) (fun u16 r16 => bnd (hm_Te_tag N u16 r16) (fun u18 r18 => F r18 (tsB N u18 p)))) (fun u6 _ => hb_Ma_predefined_146 N () u6 p)
def tsW (N : Nat) (u : MS) (F : Int32 → (Int32 → Option (MS × Unit)) → Option (MS × Unit)) : Option (MS × Unit) := bnd (bnd (fm_M_take N u) (fun u4 r4 => bnd (fm_M_sortOf N u4 r4) (fun u5 r5 => F r5 (tsR N u5)))) (fun u _ => some (u, ()))
def tsF (c : Int32) (s : Int32) (k : Int32 → Option (MS × Unit)) : Option (MS × Unit) := br (decide (s = c)) (k 1) (k 0)
def tsL (s : Int32) (k : Int32 → Option (MS × Unit)) : Option (MS × Unit) := br (decide (s = 6)) (k 1) (br (decide (s = 7)) (k 1) (k 0))
section
variable {N p : Nat} {u w : MS} {t : Int64} {s : Int32}
theorem pm17 : hm_Ma_predefined N u p (I 17) = tsM N u p (tsF 0) := rfl
theorem pm18 : hm_Ma_predefined N u p (I 18) = tsM N u p (tsF 1) := rfl
theorem pm19 : hm_Ma_predefined N u p (I 19) = tsM N u p tsL := rfl
theorem pm20 : hm_Ma_predefined N u p (I 20) = tsM N u p (tsF 5) := rfl
theorem pm21 : hm_Ma_predefined N u p (I 21) = tsM N u p (tsF 3) := rfl
theorem pm22 : hm_Ma_predefined N u p (I 22) = tsM N u p (tsF 4) := rfl
theorem pm23 : hm_Ma_predefined N u p (I 23) = tsM N u p (tsF 2) := rfl
theorem pr18 : fm_M_predefinedRun N w (I 18) = tsW N w (tsF 0) := rfl
theorem pr19 : fm_M_predefinedRun N w (I 19) = tsW N w (tsF 1) := rfl
theorem pr20 : fm_M_predefinedRun N w (I 20) = tsW N w tsL := rfl
theorem pr21 : fm_M_predefinedRun N w (I 21) = tsW N w (tsF 5) := rfl
theorem pr22 : fm_M_predefinedRun N w (I 22) = tsW N w (tsF 3) := rfl
theorem pr23 : fm_M_predefinedRun N w (I 23) = tsW N w (tsF 4) := rfl
theorem pr24 : fm_M_predefinedRun N w (I 24) = tsW N w (tsF 2) := rfl
def ptM (N : Nat) (u : MS) (p : Nat) (F : MS → Int64 → Int32 → Option (MS × Unit)) : Option (MS × Unit) := bnd (bnd (hm_Fr_below N u p 0) (fun u16 r16 => bnd (hm_Te_tag N u16 r16) (fun u18 r18 => bnd (F u18 r16 r18) (fun u19 _ => some (u19, ()))))) (fun u6 _ => hb_Ma_predefined_146 N () u6 p)
def ptW (N : Nat) (u : MS) (F : MS → Int64 → Int32 → Option (MS × Unit)) : Option (MS × Unit) := bnd (bnd (fm_M_take N u) (fun u4 r4 => bnd (fm_M_sortOf N u4 r4) (fun u5 r5 => F u5 r4 r5))) (fun u _ => some (u, ()))
theorem pm24 : hm_Ma_predefined N u p (I 24) = ptM N u p (fun u t s => br (decide (s = 7)) (ck (inb (t.toInt32) 512) (bnd (hm_Ma_answer N u p 1 (u.2.2.2 (pq p 2) (t.toInt32).toNatClampNeg)) (fun u4 _ => some (u4, ())))) (bnd (hm_Ma_wrong N u p 11) (fun u25 _ => some (u25, ())))) := rfl
theorem pm25 : hm_Ma_predefined N u p (I 25) = ptM N u p (fun u t s => br (decide (s = 7)) (ck (inb (t.toInt32 + 1) 512) (bnd (hm_Ma_answer N u p 1 (u.2.2.2 (pq p 2) (t.toInt32 + 1).toNatClampNeg)) (fun u4 _ => some (u4, ())))) (bnd (hm_Ma_wrong N u p 11) (fun u25 _ => some (u25, ())))) := rfl
theorem pm26 : hm_Ma_predefined N u p (I 26) = ptM N u p (fun u t s => bnd (hm_Te_listLength N u (pq p 2) t) (fun u30 r30 => br (decide (r30 = (-1))) (bnd (hm_Ma_wrong N u30 p 11) (fun u34 _ => some (u34, ()))) (bnd (hm_Te_make N u30 0 r30) (fun u32 r32 => bnd (hm_Ma_answer N u32 p 1 r32) (fun u33 _ => some (u33, ())))))) := rfl
theorem pm28 : hm_Ma_predefined N u p (I 28) = ptM N u p (fun u t s => br (decide (s = 5)) (ck (inb (t.toInt32) 512) (bnd (hm_Te_make N u 0 ((u.2.2.2 (pq p 2) (t.toInt32).toNatClampNeg).toInt32)) (fun u23 r23 => bnd (hm_Ma_answer N u23 p 1 r23) (fun u24 _ => some (u24, ()))))) (bnd (hm_Ma_wrong N u p 11) (fun u25 _ => some (u25, ())))) := rfl
theorem pm27 : hm_Ma_predefined N u p (I 27) = ptM N u p (fun u t s => br (decide (s = 5)) (ck (inb (t.toInt32) 512) (bnd (hm_Fr_below N u p 1) (fun u14 r14 => bnd (hm_Te_tag N u14 r14) (fun u16 r16 => br (decide (r16 = 0)) (br (decide (r14.toInt32 < 1)) (bnd (hm_Ma_wrong N u16 p 11) (fun u1 _ => some (u1, ()))) (br (decide (r14.toInt32 ≤ (u.2.2.2 (pq p 2) (t.toInt32).toNatClampNeg).toInt32)) (ck (inb (t.toInt32 + r14.toInt32) 512) (bnd (hm_Ma_answer N u16 p 2 (u16.2.2.2 (pq p 2) (t.toInt32 + r14.toInt32).toNatClampNeg)) (fun u22 _ => some (u22, ())))) (bnd (hm_Ma_wrong N u16 p 11) (fun u1 _ => some (u1, ()))))) (bnd (hm_Ma_wrong N u16 p 11) (fun u1 _ => some (u1, ()))))))) (bnd (hm_Ma_wrong N u p 11) (fun u25 _ => some (u25, ())))) := rfl
theorem pr25 : fm_M_predefinedRun N w (I 25) = ptW N w (fun u t s => br (decide (s = 7)) (bnd (fm_M_valueOf N u t) (fun u25 r25 => bnd (fm_M_cell N u25 (u.1 133) ((r25 + (I 25 - 18)) - 7)) (fun u26 r26 => bnd (fm_M_put N u26 r26) (fun u27 _ => some (u27, ()))))) (bnd (fr_M_error N u 11) (fun u28 _ => some (u28, ())))) := rfl
theorem pr26 : fm_M_predefinedRun N w (I 26) = ptW N w (fun u t s => br (decide (s = 7)) (bnd (fm_M_valueOf N u t) (fun u25 r25 => bnd (fm_M_cell N u25 (u.1 133) ((r25 + (I 26 - 18)) - 7)) (fun u26 r26 => bnd (fm_M_put N u26 r26) (fun u27 _ => some (u27, ()))))) (bnd (fr_M_error N u 11) (fun u28 _ => some (u28, ())))) := rfl
theorem pr27 : fm_M_predefinedRun N w (I 27) = ptW N w (fun u t s => bnd (fm_M_lengthOf N u t) (fun u21 r21 => br (decide (r21 = (-1))) (bnd (fr_M_error N u21 11) (fun u24 _ => some (u24, ()))) (bnd (fm_M_term N u21 0 r21) (fun u22 r22 => bnd (fm_M_put N u22 r22) (fun u23 _ => some (u23, ())))))) := rfl
theorem pr28 : fm_M_predefinedRun N w (I 28) = ptW N w (fun u t s => bnd (fm_M_take N u) (fun u11 r11 => bnd (fm_M_sortOf N u11 r11) (fun u12 r12 => br (decide (r12 = 0)) (br (decide (s = 5)) (bnd (fm_M_valueOf N u12 r11) (fun u13 r13 => br (decide (r13 < 1)) (bnd (fr_M_error N u13 11) (fun u1 _ => some (u1, ()))) (bnd (fm_M_valueOf N u13 r11) (fun u14 r14 => bnd (fm_M_valueOf N u14 t) (fun u15 r15 => bnd (fm_M_cell N u15 (u14.1 133) r15) (fun u16 r16 => br (decide ((lg_cmp (r14.toInt64) r16) ≤ 0)) (bnd (fm_M_valueOf N u16 t) (fun u17 r17 => bnd (fm_M_valueOf N u17 r11) (fun u18 r18 => bnd (fm_M_cell N u18 (u16.1 133) (r17 + r18)) (fun u19 r19 => bnd (fm_M_put N u19 r19) (fun u20 _ => some (u20, ())))))) (bnd (fr_M_error N u16 11) (fun u1 _ => some (u1, ()))))))))) (bnd (fr_M_error N u12 11) (fun u1 _ => some (u1, ())))) (bnd (fr_M_error N u12 11) (fun u1 _ => some (u1, ())))))) := rfl
theorem pr29 : fm_M_predefinedRun N w (I 29) = ptW N w (fun u t s => br (decide (s = 5)) (bnd (fm_M_valueOf N u t) (fun u6 r6 => bnd (fm_M_cell N u6 (u.1 133) r6) (fun u7 r7 => bnd (fm_M_term N u7 0 (r7.toInt32)) (fun u8 r8 => bnd (fm_M_put N u8 r8) (fun u9 _ => some (u9, ())))))) (bnd (fr_M_error N u 11) (fun u10 _ => some (u10, ())))) := rfl
theorem wrong_e9 : hm_Ma_wrong N u p 11 = some (tld u 1 (-1) (mk 1 11), ()) := rfl
end
section
variable {α β : Type} {b : Int → Nat → Nat → Prop} {Fv Fv' : Int64 → Int64 → Prop} {P P' : Int64 → Prop} {ow kd ow' kd' : Nat → Nat} {N p U B W Y l j a n : Nat} {m w m2 w1 w2 : MS} {t x : Int64} {nb : Nat → Nat} {Hs Os : Nat → List Nat} {y : Option (Nat × Nat × Nat)} {Q : MS → α → MS → β → Prop} {K1 : MS → Option (MS × α)} {K2 : MS → Option (MS × β)}
theorem pre_pp (hp : p < 24) (ru : RUs m w p j nb Hs Os y a n) (hW : W < 46000) (hl : W ≤ l ∧ l ≤ 1000000) (rt : RTb b t x) (f0 : FGm p m m2) (g0 : FGw p j w w2) (pl2 : PLs b p m2 w2 U B W Y) (h45 : F m2 (pq p 45) = ((l : Nat) : Int)) (h98 : A w2 98 (60 * p + j) = ((n + 1 : Nat) : Int)) (ha : F m2 1105 = ((a : Nat) : Int)) (ha2 : a + 2 < 24000) (cr : ∃ f, CRs (A m 23) (ROs w) (w.2.2.2 34) f y (a + 2) (n + 1) (Hs j) (Os j))
    (c : ∀ m3 w3, PLs b p m3 w3 U B (W + 1) Y → RUs m3 w3 p j nb Hs Os y (a + 2) (n + 1) → FGm p m m3 → FGw p j w w3 → PP Q (K1 m3) (K2 w3)) : PP Q (bnd (hm_Fr_push N m2 p t) (fun u _ => bnd (hb_Ma_predefined_146 N () u p) (fun u _ => K1 u))) (bnd (fm_M_put N w2 x) (fun u _ => K2 u)) := by
  obtain ⟨-, -, -, -, -, ⟨-, r9, -⟩, r11, -, -⟩ := id ru
  have h133 : F w2 133 = ((p : Nat) : Int) := by rw [FR.F g0.1 (by simp)]; exact r11
  refine l_bnd (pk_mo (push_m (N := N) (t := t) pl2.2.2.1.1 h45 hl.1 hl.2) (fun m3 _ h => ?_))
  obtain ⟨h1, h2, h3⟩ := h
  refine r_bnd (pk_mo (put_r (N := N) (x := x) hp h133 pl2.2.2.1.2.1 (by omega)) (fun w3 _ h => ?_))
  subst h
  unfold hb_Ma_predefined_146 hb_Ma_predefined_163
  have e5 : F m3 1105 = ((a : Nat) : Int) := by rw [FR.F h1 (by simp [pq_n])]; exact ha
  have e9 : F m3 1109 = 0 := by rw [FR.F h1 (by simp [pq_n]), FR.F f0 (by simp; unfold pq; omega)]; exact r9
  rw [I_F' e9, show decide (I 0 = 0) = true from rfl, br_tq, I_F' e5, show I ((a : Nat) : Int) + 2 = I ((a + 2 : Nat) : Int) from addN, wi_e, lt_e]
  show PP Q (K1 (wi m3 1105 ((a + 2 : Nat) : Int))) (K2 _)
  have pl3 := PLs_pc (z := ((a + 2 : Nat) : Int)) (PLs_push pl2 rt h1 h2 h3)
  have f3 : FGm p m (wi m3 1105 ((a + 2 : Nat) : Int)) := FGm.tr (FGm.tr f0 (FGm.push h1)) FGm.pc
  have g3 : FGw p j w (wa (wj w2 91 (46000 * p + W) x) 92 p ((W + 1 : Nat) : Int)) := FGw.tr g0 (FGw.put hW)
  exact c _ _ pl3 (RUs_mv ru f3 g3 (wi_sm (by omega) (by omega)) (by rw [wa_rne (by omega), A_wj]; exact h98) cr) f3 g3
theorem pre_tl {v0 : Int} (hw : -2147483648 ≤ v0 ∧ v0 < 2147483648) (h0 : v0 ≠ 0) {ar : Int} : hb_Ma_predefined_146 N () (tld m v0 ar t) p = some (tld m v0 ar t, ()) := by
  unfold hb_Ma_predefined_146 hb_Ma_predefined_163
  rw [I_F' (tld_9 (m := m) (ar := ar) (t := t) hw), lit0q, decE hw.1 hw.2 (by omega) (by omega), decide_eq_false h0, br_fq]
theorem op_tests {d k : Int} (hd : (d = 17 ∧ k = 18) ∨ (d = 18 ∧ k = 19) ∨ (d = 19 ∧ k = 20) ∨ (d = 20 ∧ k = 21) ∨ (d = 21 ∧ k = 22) ∨ (d = 22 ∧ k = 23) ∨ (d = 23 ∧ k = 24)) (hp : p < 24) (ru : RUs m w p j nb Hs Os y a n) (hW : W + 1 ≤ 46000) (hl : F m (pq p 45) = ((l : Nat) : Int)) (hl2 : W + 1 ≤ l ∧ l ≤ 1000000) (pl : PLs b p m w1 U B (W + 1) Y) (g1 : FGw p j w w1) (h98 : A w1 98 (60 * p + j) = ((n + 1 : Nat) : Int)) (cr : ∃ f, CRs (A m 23) (ROs w) (w.2.2.2 34) f y (a + 2) (n + 1) (Hs j) (Os j))
    (c : ∀ m3 w3, PLs b p m3 w3 U B (W + 1) Y → RUs m3 w3 p j nb Hs Os y (a + 2) (n + 1) → FGm p m m3 → FGw p j w w3 → PP Q (K1 m3) (K2 w3)) : PP Q (bnd (hm_Ma_predefined N m p (I d)) (fun u _ => K1 u)) (bnd (fm_M_predefinedRun N w1 (I k)) (fun u _ => K2 u)) := by
  obtain ⟨-, ⟨r2, -⟩, -, -, -, -, r11, -, -⟩ := id ru
  have cb2 : a + 2 + 1 < 24000 := by
    obtain ⟨f9, cr9⟩ := cr
    exact (CR_b cr9).1
  have x33 : F w1 133 = ((p : Nat) : Int) := by rw [FR.F g1.1 (by simp)]; exact r11
  have rt := pl.2.2.1.2.2 W (by omega)
  have be : hm_Fr_below N m p 0 = some (m, m.2.2.2 (pq p 35) W) := by
    have := below_e (N := N) (x := 0) (k := 0) (W := W + 1) (l := l) pl.2.2.1.1 hl hl2.1 hl2.2 rfl (by omega)
    rw [show W + 1 - 1 - 0 = W by omega] at this
    exact this
  have pd := PLs_drop (k := 1) (W := W) pl (by omega)
  have core : ∀ z : Int32, z = 1 ∨ z = 0 → PP Q (bnd (tsB N m p z) (fun u _ => bnd (hb_Ma_predefined_146 N () u p) (fun u _ => K1 u))) (bnd (tsR N (wa w1 92 p ((W : Nat) : Int)) z) (fun u _ => K2 u)) := fun z hz => by
    obtain ⟨v, e1, e2, hv⟩ : ∃ v : Int, hm_Ma_truth N m z = some (m, mk 1 v) ∧ fm_M_truth N (wa w1 92 p ((W : Nat) : Int)) z = some (wa w1 92 p ((W : Nat) : Int), mk 1 v) ∧ (v = 0 ∨ v = 1) := by
      rcases hz with rfl | rfl
      · exact ⟨0, rfl, rfl, Or.inl rfl⟩
      · exact ⟨1, rfl, rfl, Or.inr rfl⟩
    unfold tsB tsR hm_Ma_answer hb_Ma_answer_0
    rw [e1, bnd_so, e2, bnd_so, show (1 : Int32) = I 1 from rfl, drop_e (W := W + 1) (k := 1) (x := 1) pl.2.2.1.1 rfl (by omega), bnd_so, Nat.add_sub_cancel]
    simp only [bb_e, bnd_so]
    exact pre_pp (l := l) hp ru (by omega) ⟨by omega, hl2.2⟩ (lit_b (by omega) (fun h => by omega) ⟨by omega, by omega⟩) FGm.drop (FGw.tr g1 FGw.w92) pd (by rw [wi_ne (pq_inj (by omega))]; exact hl) (by rw [wa_rne (by omega)]; exact h98) (by rw [wi_ne (pq_n (by omega))]; exact r2) (by omega) cr c
  have all : ∀ G : Int32 → (Int32 → Option (MS × Unit)) → Option (MS × Unit), (∀ s : Int32, (∀ k, G s k = k 1) ∨ (∀ k, G s k = k 0)) → PP Q (bnd (tsM N m p G) (fun u _ => K1 u)) (bnd (tsW N w1 G) (fun u _ => K2 u)) := fun G hG => by
    unfold tsM tsW
    rw [be, bnd_so, e_tag, bnd_so]
    refine l_bb (r_bb ?_)
    refine rb_bnd (pk_mo (take_r (N := N) (W := W) hp x33 pl.2.2.1.2.1 (by omega)) (fun w3 r e => ?_))
    obtain ⟨rfl, rfl⟩ := e
    rw [sortOf_e, bnd_so, RTb_so rt]
    rcases hG (I (so (m.2.2.2 (pq p 35) W))) with h | h
    · rw [h, h]
      exact core 1 (Or.inl rfl)
    · rw [h, h]
      exact core 0 (Or.inr rfl)
  have hF : ∀ c s : Int32, (∀ k, tsF c s k = k 1) ∨ (∀ k, tsF c s k = k 0) := fun c s => by
    by_cases e : s = c
    · exact Or.inl (fun k => by unfold tsF; rw [decide_eq_true e, br_tq])
    · exact Or.inr (fun k => by unfold tsF; rw [decide_eq_false e, br_fq])
  have hL : ∀ s : Int32, (∀ k, tsL s k = k 1) ∨ (∀ k, tsL s k = k 0) := fun s => by
    by_cases e : s = 6
    · exact Or.inl (fun k => by unfold tsL; rw [decide_eq_true e, br_tq])
    · by_cases e2 : s = 7
      · exact Or.inl (fun k => by unfold tsL; rw [decide_eq_false e, br_fq, decide_eq_true e2, br_tq])
      · exact Or.inr (fun k => by unfold tsL; rw [decide_eq_false e, br_fq, decide_eq_false e2, br_fq])
  rcases hd with ⟨rfl, rfl⟩ | ⟨rfl, rfl⟩ | ⟨rfl, rfl⟩ | ⟨rfl, rfl⟩ | ⟨rfl, rfl⟩ | ⟨rfl, rfl⟩ | ⟨rfl, rfl⟩
  · rw [pm17, pr18]; exact all _ (hF 0)
  · rw [pm18, pr19]; exact all _ (hF 1)
  · rw [pm19, pr20]; exact all _ hL
  · rw [pm20, pr21]; exact all _ (hF 5)
  · rw [pm21, pr22]; exact all _ (hF 3)
  · rw [pm22, pr23]; exact all _ (hF 4)
  · rw [pm23, pr24]; exact all _ (hF 2)
end
end
section
set_option maxRecDepth 100000
theorem lg_leI (x y : Int64) : (lg_cmp x y ≤ 0) ↔ x.toInt ≤ y.toInt := by
  unfold lg_cmp
  simp only [gt_iff_lt, Int64.lt_iff_toInt_lt, ← Int64.toInt_inj]
  repeat' split
  all_goals (constructor <;> intro h <;> first | omega | exact absurd h (by decide) | decide)
theorem lg_leD {x y : Int64} : decide (lg_cmp x y ≤ 0) = decide (x.toInt ≤ y.toInt) := decide_eq_decide.mpr (lg_leI x y)
section
variable {b : Int → Nat → Nat → Prop} {Fv Fv' : Int64 → Int64 → Prop} {P P' : Int64 → Prop} {ow kd ow' kd' : Nat → Nat} {U U' n0 n0' : Nat} {t x : Int64}
theorem TP_tup2 {h h' : Nat → Int64} (is : ISb b h n0 h' n0') (g : HPc h U ow kd Fv P) (g' : HP h' U' ow' kd' Fv' P') (q : TPb b U ow kd P U' ow' kd' P' t x) (e5 : so t = 5) : ∃ k : Nat, (so x = 5 ∧ va t = ((vn t : Nat) : Int) ∧ vn t + 1 + k ≤ U ∧ va x = ((vn x : Nat) : Int) ∧ vn x + 1 + k ≤ U') ∧ va (h (vn t)) = ((k : Nat) : Int) ∧ va (h' (vn x)) = ((k : Nat) : Int) ∧ (h' (vn x)).toInt = ((k : Nat) : Int) ∧ ∀ i, i < k → TPb b U ow kd P U' ow' kd' P' (h (vn t + 1 + i)) (h' (vn x + 1 + i)) := by
  obtain ⟨r, gt, gt'⟩ := q
  have ex : so x = 5 := by rw [RTb_so r]; exact e5
  obtain ⟨bk, cl⟩ := HP_bkc g (Or.inr (Or.inl e5)) gt
  obtain ⟨bk', cl'⟩ := HP_bk g' (Or.inr (Or.inl ex)) gt'
  have hd := bk.2.1 e5
  have hd' := bk'.2.1 ex
  have b1 := bk.2.2.2.1
  have b1' := bk'.2.2.2.1
  have bl : blk h t = 1 + vn (h (vn t)) := by unfold blk; rw [if_neg (by omega), if_pos e5]
  have bl' : blk h' x = 1 + vn (h' (vn x)) := by unfold blk; rw [if_neg (by omega), if_pos ex]
  obtain ⟨⟨eb, -, -⟩, cs, -⟩ := is.1 t x (Or.inr (Or.inl e5)) r
  have pr : prt t = 1 := by unfold prt; rw [e5]; rfl
  have pr' : prt x = 1 := by unfold prt; rw [ex]; rfl
  have hv : va (h (vn t)) = ((vn (h (vn t)) : Nat) : Int) := by
    have h0 := hd.1
    generalize h (vn t) = z at h0 ⊢
    unfold vn; omega
  have hv' : va (h' (vn x)) = ((vn (h' (vn x)) : Nat) : Int) := by
    have h0 := hd'.1
    generalize h' (vn x) = z at h0 ⊢
    unfold vn; omega
  have vt : va t = ((vn t : Nat) : Int) := by have := bk.1; unfold vn; omega
  have vx : va x = ((vn x : Nat) : Int) := by have := bk'.1; unfold vn; omega
  rw [bl, bl'] at eb
  rw [bl] at b1
  rw [bl'] at b1'
  rw [bl, pr] at cl cs
  rw [bl', pr'] at cl'
  have ek : vn (h' (vn x)) = vn (h (vn t)) := by omega
  refine ⟨vn (h (vn t)), ⟨ex, vt, by omega, vx, by omega⟩, hv, by rw [hv', ek], by rw [hd'.2, hv', ek], fun i hi => ?_⟩
  rw [show vn t + 1 + i = vn t + (1 + i) by omega, show vn x + 1 + i = vn x + (1 + i) by omega]
  exact ⟨cs (1 + i) (by omega) (by omega), cl (1 + i) (by omega) (by omega), cl' (1 + i) (by omega) (by omega)⟩
end
section
variable {α β : Type} {b : Int → Nat → Nat → Prop} {Fv Fv' : Int64 → Int64 → Prop} {P P' : Int64 → Prop} {ow kd ow' kd' : Nat → Nat} {N p U B W Y l j a n : Nat} {m w w1 : MS} {nb : Nat → Nat} {Hs Os : Nat → List Nat} {y : Option (Nat × Nat × Nat)} {Q : MS → α → MS → β → Prop} {K1 : MS → Option (MS × α)} {K2 : MS → Option (MS × β)}
theorem op_parts {d k : Int} (hd : (d = 24 ∧ k = 25) ∨ (d = 25 ∧ k = 26) ∨ (d = 26 ∧ k = 27) ∨ (d = 28 ∧ k = 29)) (hp1 : p < 24) (ru : RUs m w p j nb Hs Os y a n) (hW : W + 1 ≤ 46000) (hl : F m (pq p 45) = ((l : Nat) : Int)) (hl2 : W + 1 ≤ l ∧ l ≤ 1000000) (pl : PLs b p m w1 U B (W + 1) Y) (g1 : FGw p j w w1) (h98 : A w1 98 (60 * p + j) = ((n + 1 : Nat) : Int)) (g : HPc (m.2.2.2 (pq p 2)) U ow kd Fv P) (g' : HP (hp w1 p) U ow' kd' Fv' P') (gt : GT U ow kd P (m.2.2.2 (pq p 35) W)) (gt' : GT U ow' kd' P' (w1.2.2.2 91 (46000 * p + W))) (cr : ∃ f, CRs (A m 23) (ROs w) (w.2.2.2 34) f y (a + 2) (n + 1) (Hs j) (Os j))
    (c : ∀ m3 w3, PLs b p m3 w3 U B (W + 1) Y → RUs m3 w3 p j nb Hs Os y (a + 2) (n + 1) → FGm p m m3 → FGw p j w w3 → PP Q (K1 m3) (K2 w3))
    (kX : ∀ w3, PLs b p (wi m (pq p 26) ((W : Nat) : Int)) w3 U B W Y → FGw p j w w3 → (w3.2.2.2 88 = w1.2.2.2 88 ∧ w3.1 140 = w1.1 140) → PP Q (K1 (tld m 1 (-1) (mk 1 11))) (bnd (fr_M_error N w3 11) (fun u _ => K2 u))) : PP Q (bnd (hm_Ma_predefined N m p (I d)) (fun u _ => K1 u)) (bnd (fm_M_predefinedRun N w1 (I k)) (fun u _ => K2 u)) := by
  obtain ⟨-, ⟨r2, -⟩, -, -, -, -, r11, -, -⟩ := id ru
  have cb2 : a + 2 + 1 < 24000 := by
    obtain ⟨f9, cr9⟩ := cr
    exact (CR_b cr9).1
  have x33 : F w1 133 = ((p : Nat) : Int) := by rw [FR.F g1.1 (by simp)]; exact r11
  have hU := pl.1.1.2.2
  have rt := pl.2.2.1.2.2 W (by omega)
  have be : hm_Fr_below N m p 0 = some (m, m.2.2.2 (pq p 35) W) := by
    have := below_e (N := N) (x := 0) (k := 0) (W := W + 1) (l := l) pl.2.2.1.1 hl hl2.1 hl2.2 rfl (by omega)
    rw [show W + 1 - 1 - 0 = W by omega] at this
    exact this
  have pd := PLs_drop (k := 1) (W := W) pl (by omega)
  have is := pl.1.2.1
  have hp3 : hp (wa w1 92 p ((W : Nat) : Int)) p = hp w1 p := rfl
  have x33' : F (wa w1 92 p ((W : Nat) : Int)) 133 = ((p : Nat) : Int) := x33
  have g3 : FGw p j w (wa w1 92 p ((W : Nat) : Int)) := FGw.tr g1 FGw.w92
  generalize hw3 : wa w1 92 p ((W : Nat) : Int) = w3 at pd hp3 x33' g3
  generalize ht : m.2.2.2 (pq p 35) W = t at rt be gt
  generalize hx : w1.2.2.2 91 (46000 * p + W) = x at rt gt'
  have q : TPb b U ow kd P U ow' kd' P' t x := ⟨rt, gt, gt'⟩
  have ans : ∀ t2 x2 : Int64, RTb b t2 x2 → PP Q (bnd (hm_Ma_answer N m p 1 t2) (fun u _ => bnd (hb_Ma_predefined_146 N () u p) (fun u _ => K1 u))) (bnd (fm_M_put N w3 x2) (fun u _ => K2 u)) := fun t2 x2 h => by
    unfold hm_Ma_answer hb_Ma_answer_0
    rw [show (1 : Int32) = I 1 from rfl, drop_e (W := W + 1) (k := 1) (x := 1) pl.2.2.1.1 rfl (by omega), bnd_so, Nat.add_sub_cancel]
    simp only [bb_e, bnd_so]
    exact pre_pp (l := l) hp1 ru (by omega) ⟨by omega, hl2.2⟩ h FGm.drop g3 pd (by rw [wi_ne (pq_inj (by omega))]; exact hl) (by rw [← hw3, wa_rne (by omega)]; exact h98) (by rw [wi_ne (pq_n (by omega))]; exact r2) (by omega) cr c
  have bad : PP Q (bnd (hm_Ma_wrong N m p 11) (fun u _ => bnd (hb_Ma_predefined_146 N () u p) (fun u _ => K1 u))) (bnd (fr_M_error N w3 11) (fun u _ => K2 u)) := by
    rw [wrong_e9, bnd_so, pre_tl ⟨by omega, by omega⟩ (by omega), bnd_so]
    exact kX w3 pd g3 ⟨by rw [← hw3]; rfl, by rw [← hw3]; rfl⟩
  have all : ∀ (G : MS → Int64 → Int32 → Option (MS × Unit)) (G' : MS → Int64 → Int32 → Option (MS × Unit)), PP Q (bnd (G m t (I (so t))) (fun u _ => bnd (hb_Ma_predefined_146 N () u p) (fun u _ => K1 u))) (bnd (G' w3 x (I (so t))) (fun u _ => K2 u)) → PP Q (bnd (ptM N m p G) (fun u _ => K1 u)) (bnd (ptW N w1 G') (fun u _ => K2 u)) := fun G G' h => by
    unfold ptM ptW
    rw [be, bnd_so, e_tag, bnd_so]
    refine l_bb (r_bb ?_)
    refine rb_bnd (pk_mo (take_r (N := N) (W := W) hp1 x33 pl.2.2.1.2.1 (by omega)) (fun w4 r e => ?_))
    obtain ⟨rfl, rfl⟩ := e
    rw [hw3, hx, sortOf_e, bnd_so, RTb_so rt]
    simp only [bb_e, bnd_so]
    exact h
  rcases hd with ⟨rfl, rfl⟩ | ⟨rfl, rfl⟩ | ⟨rfl, rfl⟩ | ⟨rfl, rfl⟩
  · rw [pm24, pr25]
    refine all _ _ ?_
    show PP Q (bnd (br (decide (I (so t) = 7)) (ck (inb (t.toInt32) 512) (bnd (hm_Ma_answer N m p 1 (m.2.2.2 (pq p 2) (t.toInt32).toNatClampNeg)) (fun u4 _ => some (u4, ())))) (bnd (hm_Ma_wrong N m p 11) (fun u25 _ => some (u25, ())))) _) (bnd (br (decide (I (so t) = 7)) (bnd (fm_M_valueOf N w3 x) (fun u25 r25 => bnd (fm_M_cell N u25 (w3.1 133) ((r25 + (I 25 - 18)) - 7)) (fun u26 r26 => bnd (fm_M_put N u26 r26) (fun u27 _ => some (u27, ()))))) (bnd (fr_M_error N w3 11) (fun u28 _ => some (u28, ())))) _)
    rw [show decide (I (so t) = 7) = decide (so t = 7) by rw [show (7 : Int32) = I 7 from rfl, decE (so_r _).1 (so_r _).2 (by omega) (by omega)]]
    by_cases e7 : so t = 7
    · obtain ⟨⟨x7, v1, v2, v3, v4⟩, q0, q1⟩ := TP_pair is g g' q e7
      rw [decide_eq_true e7, br_tq, br_tq, valI, v1, (I_inb (by omega) (by omega)).mpr ⟨by omega, by omega⟩, ck_t, tnI (n := vn t) rfl (by omega), valueOf_e, bnd_so, v3, I_F' x33', show I ((vn x : Nat) : Int) + (I 25 - 18) - 7 = I ((vn x : Nat) : Int) by rw [show (I 25 - 18 : Int32) = I 7 from rfl, show (7 : Int32) = I 7 from rfl, I_add, I_sub]; congr 1; omega, cell_e (by omega) (by omega), bnd_so, hp3]
      simp only [bb_e, bnd_so]
      exact ans _ _ q0.1
    · rw [decide_eq_false e7, br_fq, br_fq]
      simp only [bb_e, bnd_so]
      exact bad
  · rw [pm25, pr26]
    refine all _ _ ?_
    show PP Q (bnd (br (decide (I (so t) = 7)) (ck (inb (t.toInt32 + 1) 512) (bnd (hm_Ma_answer N m p 1 (m.2.2.2 (pq p 2) (t.toInt32 + 1).toNatClampNeg)) (fun u4 _ => some (u4, ())))) (bnd (hm_Ma_wrong N m p 11) (fun u25 _ => some (u25, ())))) _) (bnd (br (decide (I (so t) = 7)) (bnd (fm_M_valueOf N w3 x) (fun u25 r25 => bnd (fm_M_cell N u25 (w3.1 133) ((r25 + (I 26 - 18)) - 7)) (fun u26 r26 => bnd (fm_M_put N u26 r26) (fun u27 _ => some (u27, ()))))) (bnd (fr_M_error N w3 11) (fun u28 _ => some (u28, ())))) _)
    rw [show decide (I (so t) = 7) = decide (so t = 7) by rw [show (7 : Int32) = I 7 from rfl, decE (so_r _).1 (so_r _).2 (by omega) (by omega)]]
    by_cases e7 : so t = 7
    · obtain ⟨⟨x7, v1, v2, v3, v4⟩, q0, q1⟩ := TP_pair is g g' q e7
      rw [decide_eq_true e7, br_tq, br_tq, valI, v1, show I ((vn t : Nat) : Int) + 1 = I ((vn t + 1 : Nat) : Int) from addN, (I_inb (by omega) (by omega)).mpr ⟨by omega, by omega⟩, ck_t, tnI (n := vn t + 1) rfl (by omega), valueOf_e, bnd_so, v3, I_F' x33', show I ((vn x : Nat) : Int) + (I 26 - 18) - 7 = I ((vn x + 1 : Nat) : Int) by rw [show (I 26 - 18 : Int32) = I 8 from rfl, show (7 : Int32) = I 7 from rfl, I_add, I_sub]; congr 1; omega, cell_e (by omega) (by omega), bnd_so, hp3]
      simp only [bb_e, bnd_so]
      exact ans _ _ q1.1
    · rw [decide_eq_false e7, br_fq, br_fq]
      simp only [bb_e, bnd_so]
      exact bad
  · rw [pm26, pr27]
    refine all _ _ ?_
    show PP Q (bnd (bnd (hm_Te_listLength N m (pq p 2) t) (fun u30 r30 => br (decide (r30 = (-1))) (bnd (hm_Ma_wrong N u30 p 11) (fun u34 _ => some (u34, ()))) (bnd (hm_Te_make N u30 0 r30) (fun u32 r32 => bnd (hm_Ma_answer N u32 p 1 r32) (fun u33 _ => some (u33, ())))))) _) (bnd (bnd (fm_M_lengthOf N w3 x) (fun u21 r21 => br (decide (r21 = (-1))) (bnd (fr_M_error N u21 11) (fun u24 _ => some (u24, ()))) (bnd (fm_M_term N u21 0 r21) (fun u22 r22 => bnd (fm_M_put N u22 r22) (fun u23 _ => some (u23, ())))))) _)
    refine l_bb (r_bb ?_)
    refine pp_bb (pp_mo (len_pp (N := N) (v := pq p 2) rfl hp3 g hU g' hU (by omega) x33' is q) (fun m4 r4 w4 r5 h => ?_))
    obtain ⟨⟨rfl, rfl⟩, rfl, rfl | ⟨k, rfl, k5, -⟩⟩ := h
    · rw [show decide (I (-1) = -1) = true from rfl, br_tq, br_tq]
      simp only [bb_e, bnd_so]
      exact bad
    · rw [show decide (I ((k : Nat) : Int) = -1) = false from by rw [show (-1 : Int32) = I (-1) from rfl, decE (by omega) (by omega) (by omega) (by omega), decide_eq_false (by omega)], br_fq, br_fq, show hm_Te_make N m4 0 (I ((k : Nat) : Int)) = some (m4, mk 0 ((k : Nat) : Int)) from rfl, bnd_so, show fm_M_term N w4 0 (I ((k : Nat) : Int)) = some (w4, mk 0 ((k : Nat) : Int)) from rfl, bnd_so]
      simp only [bb_e, bnd_so]
      exact ans _ _ (lit_b (Or.inl rfl) (fun c => by omega) ⟨by omega, by omega⟩)
  · rw [pm28, pr29]
    refine all _ _ ?_
    show PP Q (bnd (br (decide (I (so t) = 5)) (ck (inb (t.toInt32) 512) (bnd (hm_Te_make N m 0 ((m.2.2.2 (pq p 2) (t.toInt32).toNatClampNeg).toInt32)) (fun u23 r23 => bnd (hm_Ma_answer N u23 p 1 r23) (fun u24 _ => some (u24, ()))))) (bnd (hm_Ma_wrong N m p 11) (fun u25 _ => some (u25, ())))) _) (bnd (br (decide (I (so t) = 5)) (bnd (fm_M_valueOf N w3 x) (fun u6 r6 => bnd (fm_M_cell N u6 (w3.1 133) r6) (fun u7 r7 => bnd (fm_M_term N u7 0 (r7.toInt32)) (fun u8 r8 => bnd (fm_M_put N u8 r8) (fun u9 _ => some (u9, ())))))) (bnd (fr_M_error N w3 11) (fun u10 _ => some (u10, ())))) _)
    rw [show decide (I (so t) = 5) = decide (so t = 5) by rw [show (5 : Int32) = I 5 from rfl, decE (so_r _).1 (so_r _).2 (by omega) (by omega)]]
    by_cases e5 : so t = 5
    · obtain ⟨k, ⟨x5, v1, v2, v3, v4⟩, k1, k2, -, -⟩ := TP_tup2 is g g' q e5
      rw [decide_eq_true e5, br_tq, br_tq, valI, v1, (I_inb (by omega) (by omega)).mpr ⟨by omega, by omega⟩, ck_t, tnI (n := vn t) rfl (by omega), valI, k1, show hm_Te_make N m 0 (I ((k : Nat) : Int)) = some (m, mk 0 ((k : Nat) : Int)) from rfl, bnd_so, valueOf_e, bnd_so, v3, I_F' x33', cell_e (by omega) (by omega), bnd_so, hp3, valI, k2, show fm_M_term N w3 0 (I ((k : Nat) : Int)) = some (w3, mk 0 ((k : Nat) : Int)) from rfl, bnd_so]
      simp only [bb_e, bnd_so]
      exact ans _ _ (lit_b (Or.inl rfl) (fun c => by omega) ⟨by omega, by omega⟩)
    · rw [decide_eq_false e5, br_fq, br_fq]
      simp only [bb_e, bnd_so]
      exact bad
theorem op_elem (hp1 : p < 24) (ru : RUs m w p j nb Hs Os y a n) (hW : W + 2 ≤ 46000) (hl : F m (pq p 45) = ((l : Nat) : Int)) (hl2 : W + 2 ≤ l ∧ l ≤ 1000000) (pl : PLs b p m w1 U B (W + 2) Y) (g1 : FGw p j w w1) (h98 : A w1 98 (60 * p + j) = ((n + 1 : Nat) : Int)) (g : HPc (m.2.2.2 (pq p 2)) U ow kd Fv P) (g' : HP (hp w1 p) U ow' kd' Fv' P') (gt : GT U ow kd P (m.2.2.2 (pq p 35) (W + 1))) (gt' : GT U ow' kd' P' (w1.2.2.2 91 (46000 * p + (W + 1)))) (cr : ∃ f, CRs (A m 23) (ROs w) (w.2.2.2 34) f y (a + 2) (n + 1) (Hs j) (Os j))
    (c : ∀ m3 w3, PLs b p m3 w3 U B (W + 1) Y → RUs m3 w3 p j nb Hs Os y (a + 2) (n + 1) → FGm p m m3 → FGw p j w w3 → PP Q (K1 m3) (K2 w3))
    (kX : ∀ w3, PLs b p (wi m (pq p 26) ((W : Nat) : Int)) w3 U B W Y → FGw p j w w3 → (w3.2.2.2 88 = w1.2.2.2 88 ∧ w3.1 140 = w1.1 140) → PP Q (K1 (tld m 1 (-1) (mk 1 11))) (bnd (fr_M_error N w3 11) (fun u _ => K2 u))) : PP Q (bnd (hm_Ma_predefined N m p (I 27)) (fun u _ => K1 u)) (bnd (fm_M_predefinedRun N w1 (I 28)) (fun u _ => K2 u)) := by
  obtain ⟨-, ⟨r2, -⟩, -, -, -, -, r11, -, -⟩ := id ru
  have cb2 : a + 2 + 1 < 24000 := by
    obtain ⟨f9, cr9⟩ := cr
    exact (CR_b cr9).1
  have x33 : F w1 133 = ((p : Nat) : Int) := by rw [FR.F g1.1 (by simp)]; exact r11
  have hU := pl.1.1.2.2
  have rt := pl.2.2.1.2.2 (W + 1) (by omega)
  have rti := pl.2.2.1.2.2 W (by omega)
  have be0 : hm_Fr_below N m p 0 = some (m, m.2.2.2 (pq p 35) (W + 1)) := below_e (N := N) (x := 0) (k := 0) (W := W + 2) (l := l) pl.2.2.1.1 hl hl2.1 hl2.2 rfl (by omega)
  have be1 : hm_Fr_below N m p 1 = some (m, m.2.2.2 (pq p 35) W) := below_e (N := N) (x := 1) (k := 1) (W := W + 2) (l := l) pl.2.2.1.1 hl hl2.1 hl2.2 rfl (by omega)
  have is := pl.1.2.1
  have pd0 := PLs_drop (k := 2) (W := W) pl (by omega)
  have pd : PLs b p (wi m (pq p 26) ((W : Nat) : Int)) (wa (wa w1 92 p ((W + 1 : Nat) : Int)) 92 p ((W : Nat) : Int)) U B W Y := PLs_cg pd0 (fun _ _ => rfl) (fun _ _ => rfl) (fun _ _ => rfl) (fun _ _ => rfl) (fun _ _ => rfl) (fun k hk => by
    by_cases c : k = 92
    · subst c
      rw [wa_s1, wa_s1]
    · rw [wa_at (by omega), wa_at (by omega), wa_at (by omega)]) (fun _ _ => rfl) (fun _ _ => rfl) (fun _ _ => rfl) (fun _ _ => rfl)
  have hp3 : hp (wa (wa w1 92 p ((W + 1 : Nat) : Int)) 92 p ((W : Nat) : Int)) p = hp w1 p := rfl
  have x33' : F (wa (wa w1 92 p ((W + 1 : Nat) : Int)) 92 p ((W : Nat) : Int)) 133 = ((p : Nat) : Int) := x33
  have y33 : F (wa w1 92 p ((W + 1 : Nat) : Int)) 133 = ((p : Nat) : Int) := x33
  have y92 : A (wa w1 92 p ((W + 1 : Nat) : Int)) 92 p = ((W + 1 : Nat) : Int) := wa_sm (by omega) (by omega)
  have g3 : FGw p j w (wa (wa w1 92 p ((W + 1 : Nat) : Int)) 92 p ((W : Nat) : Int)) := FGw.tr (FGw.tr g1 FGw.w92) FGw.w92
  have h983 : A (wa (wa w1 92 p ((W + 1 : Nat) : Int)) 92 p ((W : Nat) : Int)) 98 (60 * p + j) = ((n + 1 : Nat) : Int) := by rw [wa_rne (by omega), wa_rne (by omega)]; exact h98
  have j91 : (wa w1 92 p ((W + 1 : Nat) : Int)).2.2.2 91 (46000 * p + W) = w1.2.2.2 91 (46000 * p + W) := rfl
  generalize hw3 : wa (wa w1 92 p ((W + 1 : Nat) : Int)) 92 p ((W : Nat) : Int) = w3 at pd hp3 x33' g3 h983
  generalize ht : m.2.2.2 (pq p 35) (W + 1) = t at rt be0 gt
  generalize hx : w1.2.2.2 91 (46000 * p + (W + 1)) = x at rt gt'
  generalize hti : m.2.2.2 (pq p 35) W = ti at rti be1
  generalize hxi : w1.2.2.2 91 (46000 * p + W) = xi at rti j91
  have q : TPb b U ow kd P U ow' kd' P' t x := ⟨rt, gt, gt'⟩
  have ans : ∀ t2 x2 : Int64, RTb b t2 x2 → PP Q (bnd (hm_Ma_answer N m p 2 t2) (fun u _ => bnd (hb_Ma_predefined_146 N () u p) (fun u _ => K1 u))) (bnd (fm_M_put N w3 x2) (fun u _ => K2 u)) := fun t2 x2 h => by
    unfold hm_Ma_answer hb_Ma_answer_0
    rw [show (2 : Int32) = I 2 from rfl, drop_e (W := W + 2) (k := 2) (x := 2) pl.2.2.1.1 rfl (by omega), bnd_so, Nat.add_sub_cancel]
    simp only [bb_e, bnd_so]
    exact pre_pp (l := l) hp1 ru (by omega) ⟨by omega, hl2.2⟩ h FGm.drop g3 pd (by rw [wi_ne (pq_inj (by omega))]; exact hl) h983 (by rw [wi_ne (pq_n (by omega))]; exact r2) (by omega) cr c
  have bad : PP Q (bnd (hm_Ma_wrong N m p 11) (fun u _ => bnd (hb_Ma_predefined_146 N () u p) (fun u _ => K1 u))) (bnd (fr_M_error N w3 11) (fun u _ => K2 u)) := by
    rw [wrong_e9, bnd_so, pre_tl ⟨by omega, by omega⟩ (by omega), bnd_so]
    exact kX w3 pd g3 ⟨by rw [← hw3]; rfl, by rw [← hw3]; rfl⟩
  rw [pm27, pr28]
  unfold ptM ptW
  rw [be0, bnd_so, e_tag, bnd_so]
  refine l_bb (r_bb ?_)
  refine rb_bnd (pk_mo (take_r (N := N) (W := W + 1) hp1 x33 pl.2.2.1.2.1 (by omega)) (fun w4 r e => ?_))
  obtain ⟨rfl, rfl⟩ := e
  rw [hx, sortOf_e, bnd_so, RTb_so rt]
  refine rb_bnd (pk_mo (take_r (N := N) (W := W) hp1 y33 y92 (by omega)) (fun w5 r e => ?_))
  obtain ⟨rfl, rfl⟩ := e
  rw [hw3, j91, sortOf_e, bnd_so, RTb_so rti]
  have d5 : decide (I (so t) = 5) = decide (so t = 5) := by rw [show (5 : Int32) = I 5 from rfl, decE (so_r _).1 (so_r _).2 (by omega) (by omega)]
  have d0 : decide (I (so ti) = 0) = decide (so ti = 0) := by rw [lit0q, decE (so_r _).1 (so_r _).2 (by omega) (by omega)]
  dsimp only
  rw [d5, d0]
  by_cases e5 : so t = 5
  · obtain ⟨k, ⟨x5, v1, v2, v3, v4⟩, k1, k2, k3, k4⟩ := TP_tup2 is g g' q e5
    rw [decide_eq_true e5, br_tq, br_tq, valI, v1, (I_inb (by omega) (by omega)).mpr ⟨by omega, by omega⟩, ck_t, be1, bnd_so, e_tag, bnd_so, d0]
    by_cases e0 : so ti = 0
    · have xt : xi = ti := RTb_n rti (by unfold isH; omega)
      have vr := va_r ti
      rw [decide_eq_true e0, br_tq, br_tq, valueOf_e, bnd_so, xt, valI]
      have d1 : decide (I (va ti) < 1) = decide (va ti < 1) := by
        rw [lit1q]
        exact decide_eq_decide.mpr (I_lt vr.1 vr.2 (by omega) (by omega))
      rw [d1]
      by_cases e1 : va ti < 1
      · rw [decide_eq_true e1, br_tq, br_tq]
        simp only [bb_e, bnd_so]
        exact bad
      · rw [decide_eq_false e1, br_fq, br_fq, valueOf_e, bnd_so, valueOf_e, bnd_so, v3, I_F' x33', cell_e (by omega) (by omega), bnd_so, hp3, tnI (n := vn t) rfl (by omega), valI, k1, decI vr.1 vr.2 (by omega) (by omega)]
        have dl : decide (lg_cmp (I (va ti)).toInt64 (hp w1 p (vn x)) ≤ 0) = decide (va ti ≤ ((k : Nat) : Int)) := by
          rw [lg_leD, toI64, k3, I_ti vr.1 vr.2]
        rw [dl]
        by_cases e2 : va ti ≤ ((k : Nat) : Int)
        · obtain ⟨z, hz⟩ : ∃ z : Nat, va ti = ((z : Nat) : Int) := ⟨(va ti).toNat, by omega⟩
          rw [decide_eq_true e2, br_tq, br_tq, hz, addN, (I_inb (by omega) (by omega)).mpr ⟨by omega, by omega⟩, ck_t, tnI (n := vn t + z) rfl (by omega), valueOf_e, bnd_so, v3, valueOf_e, bnd_so, hz, addN, I_F' x33', cell_e (by omega) (by omega), bnd_so, hp3]
          simp only [bb_e, bnd_so]
          have := (k4 (z - 1) (by omega)).1
          rw [show vn t + 1 + (z - 1) = vn t + z by omega, show vn x + 1 + (z - 1) = vn x + z by omega] at this
          exact ans _ _ this
        · rw [decide_eq_false e2, br_fq, br_fq]
          simp only [bb_e, bnd_so]
          exact bad
    · rw [decide_eq_false e0, br_fq, br_fq]
      simp only [bb_e, bnd_so]
      exact bad
  · rw [decide_eq_false e5, br_fq]
    by_cases e0 : so ti = 0
    · rw [decide_eq_true e0, br_tq, br_fq]
      simp only [bb_e, bnd_so]
      exact bad
    · rw [decide_eq_false e0, br_fq]
      simp only [bb_e, bnd_so]
      exact bad
end
end
section
set_option maxRecDepth 100000
section
variable {N p : Nat} {u w m : MS} {t : Int64} {z : Int32}
theorem pm0 : hm_Ma_predefined N u p (I 0) = bnd (bnd (hm_Fr_below N u p 0) (fun u11 _ => bnd (hm_Te_make N u11 4 (Int32.ofNat p)) (fun u16 r16 => bnd (hm_Ma_answer N u16 p 0 r16) (fun u17 _ => some (u17, ()))))) (fun u4 _ => hb_Ma_predefined_146 N () u4 p) := rfl
theorem pr0 : fm_M_predefinedRun N w (I 0) = bnd (fm_M_term N w 4 (w.1 133)) (fun u3 r3 => bnd (fm_M_put N u3 r3) (fun u4 _ => some (u4, ()))) := rfl
theorem pm16 : hm_Ma_predefined N u p (I 16) = bnd (bnd (hm_Fr_below N u p 0) (fun u11 _ => bnd (hm_Te_make N u11 0 (u11.1 944)) (fun u16 r16 => bnd (hm_Ma_answer N u16 p 0 r16) (fun u17 _ => some (u17, ()))))) (fun u4 _ => hb_Ma_predefined_146 N () u4 p) := rfl
theorem pr17 : fm_M_predefinedRun N w (I 17) = bnd (fm_M_term N w 0 (w.1 120)) (fun u3 r3 => bnd (fm_M_put N u3 r3) (fun u4 _ => some (u4, ()))) := rfl
theorem pm11 : hm_Ma_predefined N u p (I 11) = bnd (bnd (hm_Fr_below N u p 0) (fun u11 _ => bnd (hm_Te_make N u11 2 (u11.1 945)) (fun u42 r42 => bnd (hm_Ma_answer N u42 p 0 r42) (fun u43 _ => lt (upI u43 945 ((u43.1 945) + 1)) (fun w47 => some (w47, ())))))) (fun u4 _ => hb_Ma_predefined_146 N () u4 p) := rfl
theorem pr12 : fm_M_predefinedRun N w (I 12) = bnd (fm_M_term N w 2 (w.1 121)) (fun u3 r3 => bnd (fm_M_put N u3 r3) (fun u4 _ => lt (upI u4 121 ((u4.1 121) + 1)) (fun w5 => some (w5, ())))) := rfl
theorem pm7 : hm_Ma_predefined N u p (I 7) = bnd (bnd (hm_Fr_below N u p 0) (fun u11 r11 => bnd (hm_Ma_tell N u11 p 2 (-1) r11) (fun u35 _ => some (u35, ())))) (fun u4 _ => hb_Ma_predefined_146 N () u4 p) := rfl
theorem pm8 : hm_Ma_predefined N u p (I 8) = bnd (bnd (hm_Fr_below N u p 0) (fun u11 r11 => bnd (hm_Ma_tell N u11 p 3 (-1) r11) (fun u35 _ => some (u35, ())))) (fun u4 _ => hb_Ma_predefined_146 N () u4 p) := rfl
theorem pm9 : hm_Ma_predefined N u p (I 9) = bnd (bnd (hm_Fr_below N u p 0) (fun u11 r11 => bnd (hm_Ma_tell N u11 p 1 (-1) r11) (fun u35 _ => some (u35, ())))) (fun u4 _ => hb_Ma_predefined_146 N () u4 p) := rfl
theorem pr7 : fm_M_predefinedRun N w (I 7) = bnd (fm_M_take N w) (fun u16 r16 => bnd (fr_M_goesUp N u16 1 r16) (fun u2 _ => some (u2, ()))) := rfl
theorem pr9 : fm_M_predefinedRun N w (I 9) = bnd (fm_M_take N w) (fun u16 r16 => bnd (fr_M_goesUp N u16 2 r16) (fun u2 _ => some (u2, ()))) := rfl
theorem pr10 : fm_M_predefinedRun N w (I 10) = bnd (fm_M_take N w) (fun u16 r16 => bnd (fr_M_goesUp N u16 0 r16) (fun u2 _ => some (u2, ()))) := rfl
theorem pm6 : hm_Ma_predefined N u p (I 6) = bnd (bnd (hm_Fr_below N u p 0) (fun u11 r11 => bnd (hm_Ma_atom N u11 0) (fun u32 r32 => br (decide ((lg_cmp r11 r32) = 0)) (hb_Ma_alone_183 N () u32 p (r11)) (bnd (hm_Ma_atom N u32 1) (fun u33 r33 => br (decide ((lg_cmp r11 r33) = 0)) (hb_Ma_alone_183 N () u33 p (r11)) (bnd (hm_Ma_wrong N u33 p 11) (fun u34 _ => some (u34, ())))))))) (fun u4 _ => hb_Ma_predefined_146 N () u4 p) := rfl
theorem pr6 : fm_M_predefinedRun N w (I 6) = bnd (fm_M_take N w) (fun u10 r10 => bnd (fm_M_isTruth N u10 r10) (fun u11 r11 => br (decide (r11 = 0)) (bnd (fr_M_error N u11 11) (fun u12 _ => some (u12, ()))) (ck (inb (u11.1 133) (ln 112)) (bnd (fm_M_truth N u11 (u11.2.2.1 112 (u11.1 133).toNatClampNeg)) (fun u13 r13 => bnd (fm_M_put N u13 r13) (fun u14 _ => bnd (fm_M_truth N u14 1) (fun u15 r15 => br (decide ((lg_cmp r10 r15) = 0)) (fb_M_predefinedRun_251 N () u15 (112) ((u14.1 133)) (1)) (fb_M_predefinedRun_251 N () u15 (112) ((u14.1 133)) (0))))))))) := rfl
theorem bel_k {v : Int32} : PK (fun u2 _ => u2 = m) (hm_Fr_below N m p v) := by
  unfold hm_Fr_below hb_Fr_below_0 hb_Fr_below_23
  exact pk_br (fun _ => pk_ck (fun _ => pk_some rfl)) (fun _ => pk_some rfl)
theorem truth_z : ∃ v : Int, (v = 0 ∨ v = 1) ∧ ∀ u w : MS, hm_Ma_truth N u z = some (u, mk 1 v) ∧ fm_M_truth N w z = some (w, mk 1 v) := by
  by_cases e : z = 0
  · subst e
    exact ⟨1, Or.inr rfl, fun _ _ => ⟨rfl, rfl⟩⟩
  · refine ⟨0, Or.inl rfl, fun u w => ⟨?_, ?_⟩⟩
    · unfold hm_Ma_truth hb_Ma_truth_0
      rw [decide_eq_false e, br_fq]
      rfl
    · unfold fm_M_truth fb_M_truth_0
      rw [decide_eq_false e, br_fq]
      rfl
end
section
variable {α β : Type} {b : Int → Nat → Nat → Prop} {Fv Fv' : Int64 → Int64 → Prop} {P P' : Int64 → Prop} {ow kd ow' kd' : Nat → Nat} {N p U B W Y l j a n : Nat} {m w w1 m2 : MS} {nb : Nat → Nat} {Hs Os : Nat → List Nat} {y : Option (Nat × Nat × Nat)} {Q : MS → α → MS → β → Prop} {K1 : MS → Option (MS × α)} {K2 : MS → Option (MS × β)}
theorem PLs_d0 (pl : PLs b p m w U B W Y) : PLs b p (wi m (pq p 26) ((W : Nat) : Int)) w U B W Y := PLs_cg pl (fun k hk => by
  by_cases c : k = 26
  · subst c
    rw [wi_s1]
    exact (I_F' pl.2.2.1.1).symm
  · rw [wi_1 (pq_inj c)]) (fun _ _ => rfl) (fun _ _ => rfl) (fun _ _ => rfl) (fun _ _ => rfl) (fun _ _ => rfl) (fun _ _ => rfl) (fun _ _ => rfl) (fun _ _ => rfl) (fun _ _ => rfl)
theorem op_here {d k : Int} (hd : (d = 0 ∧ k = 0) ∨ (d = 16 ∧ k = 17)) (hp1 : p < 24) (ru : RUs m w p j nb Hs Os y a n) (hc : m.1 944 = w.1 120) (hW : W < 46000) (hl : F m (pq p 45) = ((l : Nat) : Int)) (hl2 : W ≤ l ∧ l ≤ 1000000) (pl : PLs b p m w1 U B W Y) (g1 : FGw p j w w1) (h98 : A w1 98 (60 * p + j) = ((n + 1 : Nat) : Int)) (cr : ∃ f, CRs (A m 23) (ROs w) (w.2.2.2 34) f y (a + 2) (n + 1) (Hs j) (Os j))
    (c : ∀ m3 w3, PLs b p m3 w3 U B (W + 1) Y → RUs m3 w3 p j nb Hs Os y (a + 2) (n + 1) → FGm p m m3 → FGw p j w w3 → PP Q (K1 m3) (K2 w3)) : PP Q (bnd (hm_Ma_predefined N m p (I d)) (fun u _ => K1 u)) (bnd (fm_M_predefinedRun N w1 (I k)) (fun u _ => K2 u)) := by
  obtain ⟨-, ⟨r2, -⟩, -, -, -, -, r11, -, -⟩ := id ru
  have cb2 : a + 2 + 1 < 24000 := by
    obtain ⟨f9, cr9⟩ := cr
    exact (CR_b cr9).1
  have x33 : F w1 133 = ((p : Nat) : Int) := by rw [FR.F g1.1 (by simp)]; exact r11
  have pd := PLs_d0 pl
  have ans : ∀ t2 x2 : Int64, RTb b t2 x2 → PP Q (bnd (hm_Ma_answer N m p 0 t2) (fun u _ => bnd (hb_Ma_predefined_146 N () u p) (fun u _ => K1 u))) (bnd (fm_M_put N w1 x2) (fun u _ => K2 u)) := fun t2 x2 h => by
    unfold hm_Ma_answer hb_Ma_answer_0
    rw [show (0 : Int32) = I 0 from rfl, drop_e (W := W) (k := 0) (x := 0) pl.2.2.1.1 rfl (by omega), bnd_so, Nat.sub_zero]
    simp only [bb_e, bnd_so]
    exact pre_pp (l := l) hp1 ru (by omega) ⟨by omega, hl2.2⟩ h FGm.drop g1 pd (by rw [wi_ne (pq_inj (by omega))]; exact hl) h98 (by rw [wi_ne (pq_n (by omega))]; exact r2) (by omega) cr c
  rcases hd with ⟨rfl, rfl⟩ | ⟨rfl, rfl⟩
  · rw [pm0, pr0]
    refine l_bb (lb_bnd (pk_mo bel_k (fun u2 _ e => ?_)))
    subst e
    rw [oI, show (4 : Int32) = I 4 from rfl, e_make, bnd_so, I_F' x33, term_e, bnd_so]
    simp only [bb_e, bnd_so]
    exact ans _ _ (RTb_lit (nh_mk (by omega)) (fun c => by rw [so_mk (by omega) (by omega)] at c; omega))
  · rw [pm16, pr17]
    refine l_bb (lb_bnd (pk_mo bel_k (fun u2 _ e => ?_)))
    subst e
    have x20 : w1.1 120 = u2.1 944 := by rw [g1.1.1 120 (by simp)]; exact hc.symm
    have r9 := F_r u2 944
    rw [x20, I_F (k := 944), lit0q, e_make, bnd_so, term_e, bnd_so]
    simp only [bb_e, bnd_so]
    exact ans _ _ (lit_b (Or.inl rfl) (fun c => by omega) r9)
theorem op_tells {d k how kn : Int} (hd : (d = 7 ∧ k = 7 ∧ how = 2 ∧ kn = 1) ∨ (d = 8 ∧ k = 9 ∧ how = 3 ∧ kn = 2) ∨ (d = 9 ∧ k = 10 ∧ how = 1 ∧ kn = 0)) (hp1 : p < 24) (ru : RUs m w p j nb Hs Os y a n) (hW : W + 1 ≤ 46000) (hl : F m (pq p 45) = ((l : Nat) : Int)) (hl2 : W + 1 ≤ l ∧ l ≤ 1000000) (pl : PLs b p m w1 U B (W + 1) Y) (g1 : FGw p j w w1)
    (kT : ∀ w3, PLs b p (wi m (pq p 26) ((W : Nat) : Int)) w3 U B W Y → FGw p j w w3 → (w3.2.2.2 88 = w1.2.2.2 88 ∧ w3.1 140 = w1.1 140) → PP Q (K1 (tld m how (-1) (m.2.2.2 (pq p 35) W))) (bnd (fr_M_goesUp N w3 (I kn) (w1.2.2.2 91 (46000 * p + W))) (fun u _ => K2 u))) : PP Q (bnd (hm_Ma_predefined N m p (I d)) (fun u _ => K1 u)) (bnd (fm_M_predefinedRun N w1 (I k)) (fun u _ => K2 u)) := by
  obtain ⟨-, ⟨r2, -⟩, -, -, -, -, r11, -, -⟩ := id ru
  have x33 : F w1 133 = ((p : Nat) : Int) := by rw [FR.F g1.1 (by simp)]; exact r11
  have be : hm_Fr_below N m p 0 = some (m, m.2.2.2 (pq p 35) W) := by
    have := below_e (N := N) (x := 0) (k := 0) (W := W + 1) (l := l) pl.2.2.1.1 hl hl2.1 hl2.2 rfl (by omega)
    rw [show W + 1 - 1 - 0 = W by omega] at this
    exact this
  have pd := PLs_drop (k := 1) (W := W) pl (by omega)
  have fin := kT _ pd (FGw.tr g1 FGw.w92) ⟨rfl, rfl⟩
  have tl : ∀ h : Int, (h = 1 ∨ h = 2 ∨ h = 3) → ∀ v : Int32, v = I h → bnd (bnd (bnd (hm_Fr_below N m p 0) (fun u11 r11 => bnd (hm_Ma_tell N u11 p v (-1) r11) (fun u35 _ => some (u35, ())))) (fun u4 _ => hb_Ma_predefined_146 N () u4 p)) (fun u (_ : Unit) => K1 u) = K1 (tld m h (-1) (m.2.2.2 (pq p 35) W)) := fun h hh v hv => by
    rw [be, bnd_so, hv, show hm_Ma_tell N m p (I h) (-1) (m.2.2.2 (pq p 35) W) = some (tld m h (-1) (m.2.2.2 (pq p 35) W), ()) from rfl, bnd_so, bnd_so, pre_tl ⟨by omega, by omega⟩ (by omega), bnd_so]
  rcases hd with ⟨rfl, rfl, rfl, rfl⟩ | ⟨rfl, rfl, rfl, rfl⟩ | ⟨rfl, rfl, rfl, rfl⟩
  · rw [pm7, pr7, tl 2 (by omega) 2 rfl]
    refine r_bb (r_bnd (pk_mo (take_r (N := N) (W := W) hp1 x33 pl.2.2.1.2.1 (by omega)) (fun w4 r e => ?_)))
    obtain ⟨rfl, rfl⟩ := e
    refine r_bb ?_
    exact fin
  · rw [pm8, pr9, tl 3 (by omega) 3 rfl]
    refine r_bb (r_bnd (pk_mo (take_r (N := N) (W := W) hp1 x33 pl.2.2.1.2.1 (by omega)) (fun w4 r e => ?_)))
    obtain ⟨rfl, rfl⟩ := e
    refine r_bb ?_
    exact fin
  · rw [pm9, pr10, tl 1 (by omega) 1 rfl]
    refine r_bb (r_bnd (pk_mo (take_r (N := N) (W := W) hp1 x33 pl.2.2.1.2.1 (by omega)) (fun w4 r e => ?_)))
    obtain ⟨rfl, rfl⟩ := e
    refine r_bb ?_
    exact fin
end
end
section
set_option maxRecDepth 100000
section
variable {m w m8 w8 : MS} {k p j : Nat} {z : Int} {is ls as js : List Nat}
theorem FR_sw (f : FR is ls as js m m8) : FR is ls as js (wi m k z) (wi m8 k z) := ⟨fun i hi => by
  by_cases c : i = k
  · subst c
    rw [wi_s1, wi_s1]
  · rw [wi_1 c, wi_1 c]
    exact f.1 i hi, f.2.1, f.2.2.1, f.2.2.2⟩
theorem FGw_sw (g : FGw p j w w8) : FGw p j (wi w k z) (wi w8 k z) := ⟨FR_sw g.1, g.2⟩
end
section
variable {α β : Type} {b : Int → Nat → Nat → Prop} {N p U B W Y l j a n : Nat} {m w w1 m2 : MS} {nb : Nat → Nat} {Hs Os : Nat → List Nat} {y : Option (Nat × Nat × Nat)} {Q : MS → α → MS → β → Prop} {K1 : MS → Option (MS × α)} {K2 : MS → Option (MS × β)} {x1 x2 : Int}
theorem RUs_gl (h : RUs m w p j nb Hs Os y a n) : RUs (wi m 945 x1) (wi w 121 x2) p j nb Hs Os y a n := RUs_st h ⟨fun k hk _ => wi_1 (fun c => pq_n (by omega) c.symm), fun _ _ _ => rfl, fun _ _ _ => rfl, rfl⟩ ⟨fun _ _ _ _ _ => rfl, rfl, fun _ _ => rfl, rfl⟩ (PGs_fr (FR.wi (is := [945]) (ls := []) (as := []) (js := []) FR.rf (by simp)) (FR.wi (is := [121]) (ls := []) (as := []) (js := []) FR.rf (by simp)) (by simp) (by simp) (by simp) (by simp) (by simp) (by simp))
theorem PLs_gl (pl : PLs b p m w U B W Y) : PLs b p (wi m 945 x1) (wi w 121 x2) U B W Y := PLs_cg pl (fun k _ => wi_1 (fun c => pq_n (by omega) c.symm)) (fun _ _ => rfl) (fun _ _ => rfl) (fun _ _ => rfl) (fun _ _ => rfl) (fun _ _ => rfl) (fun _ _ => rfl) (fun _ _ => rfl) (fun _ _ => rfl) (fun _ _ => rfl)
theorem SCs_gl (s : SCs p m w) : SCs p (wi m 945 x1) (wi w 121 x2) := SC_ow s (fun k _ => wi_1 (fun c => pq_n (by omega) c.symm)) rfl (fun _ _ _ => rfl)
theorem op_ref (hp1 : p < 24) (ru : RUs m w p j nb Hs Os y a n) (hc : m.1 945 = w.1 121) (hW : W < 46000) (hl : F m (pq p 45) = ((l : Nat) : Int)) (hl2 : W ≤ l ∧ l ≤ 1000000) (pl : PLs b p m w1 U B W Y) (g1 : FGw p j w w1) (h98 : A w1 98 (60 * p + j) = ((n + 1 : Nat) : Int)) (cr : ∃ f, CRs (A m 23) (ROs w) (w.2.2.2 34) f y (a + 2) (n + 1) (Hs j) (Os j))
    (c : ∀ m3 w3, PLs b p m3 w3 U B (W + 1) Y → RUs m3 w3 p j nb Hs Os y (a + 2) (n + 1) → GGm p (wi m 945 (F m 945 + 1)) m3 → GGw p (wi w 121 (F w 121 + 1)) w3 → (SCs p m w → SCs p m3 w3) → PP Q (K1 m3) (K2 w3)) : PP Q (bnd (hm_Ma_predefined N m p (I 11)) (fun u _ => K1 u)) (bnd (fm_M_predefinedRun N w1 (I 12)) (fun u _ => K2 u)) := by
  obtain ⟨⟨fa, -⟩, ⟨r2, -⟩, -, -, -, ⟨-, r9, -⟩, r11, -, -⟩ := id ru
  have hj : j < 60 := fa.1.2.2
  have cb2 : a + 2 + 1 < 24000 := by
    obtain ⟨f9, cr9⟩ := cr
    exact (CR_b cr9).1
  have x33 : F w1 133 = ((p : Nat) : Int) := by rw [FR.F g1.1 (by simp)]; exact r11
  have pd := PLs_d0 pl
  rw [pm11, pr12]
  refine l_bb (lb_bnd (pk_mo bel_k (fun u2 _ e => ?_)))
  subst e
  have x21 : w1.1 121 = u2.1 945 := by rw [g1.1.1 121 (by simp)]; exact hc.symm
  have r945 := F_r u2 945
  have e121 : F w 121 = F u2 945 := congrArg Int32.toInt hc.symm
  rw [x21, I_F (k := 945), show (2 : Int32) = I 2 from rfl, e_make, bnd_so, term_e, bnd_so]
  unfold hm_Ma_answer hb_Ma_answer_0
  rw [show (0 : Int32) = I 0 from rfl, drop_e (W := W) (k := 0) (x := 0) pl.2.2.1.1 rfl (by omega), bnd_so, Nat.sub_zero]
  simp only [bb_e, bnd_so]
  have rt : RTb b (mk 2 (F u2 945)) (mk 2 (F u2 945)) := RTb_lit (nh_mk (by omega)) (fun c => by rw [so_mk (by omega) (by omega)] at c; omega)
  refine l_bnd (pk_mo (push_m (N := N) (t := mk 2 (F u2 945)) pd.2.2.1.1 (by rw [wi_ne (pq_inj (by omega))]; exact hl) hl2.1 hl2.2) (fun m8 _ h => ?_))
  obtain ⟨h1, h2, h3⟩ := h
  refine r_bnd (pk_mo (put_r (N := N) (x := mk 2 (F u2 945)) hp1 x33 pl.2.2.1.2.1 (by omega)) (fun w8 _ h => ?_))
  subst h
  have f8 : FGm p u2 m8 := FGm.tr FGm.drop (FGm.push h1)
  have g8 : FGw p j w (wa (wj w1 91 (46000 * p + W) (mk 2 (F u2 945))) 92 p ((W + 1 : Nat) : Int)) := FGw.tr g1 (FGw.put hW)
  have pl8 := PLs_push pd rt h1 h2 h3
  generalize hw8 : wa (wj w1 91 (46000 * p + W) (mk 2 (F u2 945))) 92 p ((W + 1 : Nat) : Int) = w8 at g8 pl8
  have x98 : A w8 98 (60 * p + j) = ((n + 1 : Nat) : Int) := by rw [← hw8, wa_rne (by omega), A_wj]; exact h98
  have e945 : F m8 945 = F u2 945 := by rw [FR.F f8 (by simp; unfold pq; omega)]
  have y121 : F w8 121 = F u2 945 := by rw [FR.F g8.1 (by simp)]; exact e121
  have i1 : ∀ (u : MS) (k : Nat), u.1 k + I 1 = I (F u k + 1) := fun u k => by rw [I_F (k := k), I_add]
  rw [show (1 : Int32) = I 1 from rfl, i1 m8 945, e945, wi_e, lt_e, i1 w8 121, y121, wi_e, lt_e, bnd_so, bnd_so]
  unfold hb_Ma_predefined_146 hb_Ma_predefined_163
  have e5 : F (wi m8 945 (F u2 945 + 1)) 1105 = ((a : Nat) : Int) := by rw [wi_ne (by omega), FR.F h1 (by simp [pq_n]), wi_ne (pq_n (by omega))]; exact r2
  have e9 : F (wi m8 945 (F u2 945 + 1)) 1109 = 0 := by rw [wi_ne (by omega), FR.F f8 (by simp; unfold pq; omega)]; exact r9
  rw [I_F' e9, show decide (I 0 = 0) = true from rfl, br_tq, I_F' e5, show I ((a : Nat) : Int) + 2 = I ((a + 2 : Nat) : Int) from addN, wi_e, lt_e]
  show PP Q (K1 (wi (wi m8 945 (F u2 945 + 1)) 1105 ((a + 2 : Nat) : Int))) (K2 (wi w8 121 (F u2 945 + 1)))
  have ru8 : RUs (wi m8 1105 ((a + 2 : Nat) : Int)) w8 p j nb Hs Os y (a + 2) (n + 1) := RUs_mv ru (FGm.tr f8 FGm.pc) g8 (wi_sm (by omega) (by omega)) x98 cr
  have sw : wi (wi m8 945 (F u2 945 + 1)) 1105 ((a + 2 : Nat) : Int) = wi (wi m8 1105 ((a + 2 : Nat) : Int)) 945 (F u2 945 + 1) := by
    unfold wi upI
    refine Prod.ext (funext fun k => ?_) rfl
    show (if k = 1105 then _ else if k = 945 then _ else m8.1 k) = (if k = 945 then _ else if k = 1105 then _ else m8.1 k)
    by_cases c : k = 1105
    · rw [if_pos c, if_neg (by omega), if_pos c]
    · rw [if_neg c, if_neg c]
  refine c _ _ ?_ ?_ (GGm_fg (FGm.tr (FR_sw f8) FGm.pc)) ?_ (fun s => ?_)
  · rw [sw]; exact PLs_gl (PLs_pc pl8)
  · rw [sw]; exact RUs_gl ru8
  · rw [e121]; exact GGw_fg (FGw_sw g8) hj
  · rw [sw]; exact SCs_gl (SC_fg s (FGm.tr f8 FGm.pc) g8)
theorem op_trap (hp1 : p < 24) (ru : RUs m w p j nb Hs Os y a n) (sc : SCs p m w) (hW : W + 1 ≤ 46000) (hl : F m (pq p 45) = ((l : Nat) : Int)) (hl2 : W + 1 ≤ l ∧ l ≤ 1000000) (pl : PLs b p m w1 U B (W + 1) Y) (g1 : FGw p j w w1) (h98 : A w1 98 (60 * p + j) = ((n + 1 : Nat) : Int)) (cr : ∃ f, CRs (A m 23) (ROs w) (w.2.2.2 34) f y (a + 2) (n + 1) (Hs j) (Os j))
    (c : ∀ m3 w3, PLs b p m3 w3 U B (W + 1) Y → RUs m3 w3 p j nb Hs Os y (a + 2) (n + 1) → GGm p m m3 → GGw p w w3 → SCs p m3 w3 → PP Q (K1 m3) (K2 w3))
    (kX : ∀ w3, PLs b p (wi m (pq p 26) ((W : Nat) : Int)) w3 U B W Y → FGw p j w w3 → (w3.2.2.2 88 = w1.2.2.2 88 ∧ w3.1 140 = w1.1 140) → PP Q (K1 (tld m 1 (-1) (mk 1 11))) (bnd (fr_M_error N w3 11) (fun u _ => K2 u))) : PP Q (bnd (hm_Ma_predefined N m p (I 6)) (fun u _ => K1 u)) (bnd (fm_M_predefinedRun N w1 (I 6)) (fun u _ => K2 u)) := by
  obtain ⟨⟨fa, -⟩, ⟨r2, -⟩, -, -, -, ⟨-, r9, -⟩, r11, -, -⟩ := id ru
  have hj : j < 60 := fa.1.2.2
  have cb2 : a + 2 + 1 < 24000 := by
    obtain ⟨f9, cr9⟩ := cr
    exact (CR_b cr9).1
  have x33 : F w1 133 = ((p : Nat) : Int) := by rw [FR.F g1.1 (by simp)]; exact r11
  have rt := pl.2.2.1.2.2 W (by omega)
  have be : hm_Fr_below N m p 0 = some (m, m.2.2.2 (pq p 35) W) := by
    have := below_e (N := N) (x := 0) (k := 0) (W := W + 1) (l := l) pl.2.2.1.1 hl hl2.1 hl2.2 rfl (by omega)
    rw [show W + 1 - 1 - 0 = W by omega] at this
    exact this
  have pd := PLs_drop (k := 1) (W := W) pl (by omega)
  have g3 : FGw p j w (wa w1 92 p ((W : Nat) : Int)) := FGw.tr g1 FGw.w92
  have x33' : F (wa w1 92 p ((W : Nat) : Int)) 133 = ((p : Nat) : Int) := x33
  have x92' : A (wa w1 92 p ((W : Nat) : Int)) 92 p = ((W : Nat) : Int) := wa_sm (by omega) (by omega)
  have x112 : (wa w1 92 p ((W : Nat) : Int)).2.2.1 112 p = m.1 (pq p 11) := by
    rw [wa_at (by omega), g1.1.2.2.1 112 (by simp)]
    exact sc.2.2.1.symm
  have h983 : A (wa w1 92 p ((W : Nat) : Int)) 98 (60 * p + j) = ((n + 1 : Nat) : Int) := by rw [wa_rne (by omega)]; exact h98
  rw [pm6, pr6]
  refine l_bb (r_bb ?_)
  refine r_bnd (pk_mo (take_r (N := N) (W := W) hp1 x33 pl.2.2.1.2.1 (by omega)) (fun w4 r e => ?_))
  obtain ⟨rfl, rfl⟩ := e
  generalize hw3 : wa w1 92 p ((W : Nat) : Int) = w3 at pd g3 x33' x92' x112 h983
  generalize ht : m.2.2.2 (pq p 35) W = t at rt be
  generalize hx : w1.2.2.2 91 (46000 * p + W) = x at rt
  rw [be, bnd_so, show hm_Ma_atom N m 0 = some (m, mk 1 0) from rfl, bnd_so]
  have sett : ∀ z : Int, (z = 0 ∨ z = 1) → ∀ zz : Int32, zz = I z → ∀ (G : MS → Option (MS × Unit)), (∀ u : MS, G u = hb_Ma_alone_216 N () u p p zz) → ∀ (G' : MS → Option (MS × Unit)), (∀ u : MS, G' u = fb_M_predefinedRun_251 N () u 112 (u.1 133) zz) → PP Q (bnd (bnd (hm_Ma_truth N m (m.1 (pq p 11))) (fun u6 r6 => bnd (hm_Ma_answer N u6 p 1 r6) (fun u7 _ => G u7))) (fun u _ => bnd (hb_Ma_predefined_146 N () u p) (fun u _ => K1 u))) (bnd (bnd (fm_M_truth N w3 (w3.2.2.1 112 p)) (fun u13 r13 => bnd (fm_M_put N u13 r13) (fun u14 _ => G' u14))) (fun u _ => K2 u)) := fun z hz zz hzz G hG G' hG' => by
    obtain ⟨v, hv, ev⟩ := truth_z (N := N) (z := m.1 (pq p 11))
    rw [x112, (ev m w3).1, bnd_so, (ev m w3).2, bnd_so]
    unfold hm_Ma_answer hb_Ma_answer_0
    rw [show (1 : Int32) = I 1 from rfl, drop_e (W := W + 1) (k := 1) (x := 1) pl.2.2.1.1 rfl (by omega), bnd_so, Nat.add_sub_cancel]
    simp only [bb_e, bnd_so]
    refine l_bnd (pk_mo (push_m (N := N) (t := mk 1 v) pd.2.2.1.1 (by rw [wi_ne (pq_inj (by omega))]; exact hl) (by omega) hl2.2) (fun m8 _ h => ?_))
    obtain ⟨h1, h2, h3⟩ := h
    refine r_bnd (pk_mo (put_r (N := N) (x := mk 1 v) hp1 x33' x92' (by omega)) (fun w8 _ h => ?_))
    subst h
    rw [hG, hG']
    unfold hb_Ma_alone_216 hb_Ma_alone_309 fb_M_predefinedRun_251 fb_M_predefinedRun_292
    refine lb_ck (fun _ => rb_ck (fun _ => rb_ck (fun _ => ?_)))
    have f8 : FGm p m m8 := FGm.tr FGm.drop (FGm.push h1)
    have g8 : FGw p j w (wa (wj w3 91 (46000 * p + W) (mk 1 v)) 92 p ((W + 1 : Nat) : Int)) := FGw.tr g3 (FGw.put (by omega))
    have pl8 := PLs_push pd (lit_b (b := b) (v := 1) (Or.inr (Or.inl rfl)) (z := v) (fun h => by omega) ⟨by omega, by omega⟩) h1 h2 h3
    have y33 : F (wa (wj w3 91 (46000 * p + W) (mk 1 v)) 92 p ((W + 1 : Nat) : Int)) 133 = ((p : Nat) : Int) := x33'
    have y98 : A (wa (wj w3 91 (46000 * p + W) (mk 1 v)) 92 p ((W + 1 : Nat) : Int)) 98 (60 * p + j) = ((n + 1 : Nat) : Int) := by rw [wa_rne (by omega), A_wj]; exact h983
    have nar : vp_nar .boolean zz = zz := by
      rw [hzz]
      rcases hz with rfl | rfl <;> rfl
    rw [nar, I_F' y33, tnI (n := p) rfl (by omega), hzz, wi_e, lt_e, wa_e, lt_e]
    generalize hw8 : wa (wj w3 91 (46000 * p + W) (mk 1 v)) 92 p ((W + 1 : Nat) : Int) = w8 at g8 pl8 y33 y98
    unfold hb_Ma_predefined_146 hb_Ma_predefined_163
    have e5 : F (wi m8 (pq p 11) z) 1105 = ((a : Nat) : Int) := by rw [wi_ne (pq_n (by omega)), FR.F h1 (by simp [pq_n]), wi_ne (pq_n (by omega))]; exact r2
    have e9 : F (wi m8 (pq p 11) z) 1109 = 0 := by rw [wi_ne (pq_n (by omega)), FR.F f8 (by simp; unfold pq; omega)]; exact r9
    rw [bnd_so, I_F' e9, show decide (I 0 = 0) = true from rfl, br_tq, I_F' e5, show I ((a : Nat) : Int) + 2 = I ((a + 2 : Nat) : Int) from addN, wi_e, lt_e]
    show PP Q (K1 (wi (wi m8 (pq p 11) z) 1105 ((a + 2 : Nat) : Int))) (K2 (wa w8 112 p z))
    have ru8 : RUs (wi m8 1105 ((a + 2 : Nat) : Int)) w8 p j nb Hs Os y (a + 2) (n + 1) := RUs_mv ru (FGm.tr f8 FGm.pc) g8 (wi_sm (by omega) (by omega)) y98 cr
    obtain ⟨q1, ⟨q2, q3⟩, ⟨f9, q4⟩, ⟨q5, q6⟩, q7, ⟨q8, q9, q10⟩, q11, q12, q13⟩ := ru8
    have im : ∀ k, k ≠ pq p 11 → (wi (wi m8 (pq p 11) z) 1105 ((a + 2 : Nat) : Int)).1 k = (wi m8 1105 ((a + 2 : Nat) : Int)).1 k := fun k h => by
      by_cases c : k = 1105
      · subst c
        rw [wi_s1, wi_s1]
      · rw [wi_1 c, wi_1 c, wi_1 h]
    have fm : ∀ k, k ≠ pq p 11 → F (wi (wi m8 (pq p 11) z) 1105 ((a + 2 : Nat) : Int)) k = F (wi m8 1105 ((a + 2 : Nat) : Int)) k := fun k h => congrArg Int32.toInt (im k h)
    have np : ∀ k, k < 2000 → k ≠ pq p 11 := fun k h c => by unfold pq at c; omega
    have r21 : ∀ K, K ≠ 112 → (wa w8 112 p z).2.2.1 K = w8.2.2.1 K := fun K h => wa_21 h
    have s8 := SC_fg sc (FGm.tr f8 (FGm.pc (v := ((a + 2 : Nat) : Int)))) g8
    refine c _ _ ?_ ⟨FC_w q1 (fun k h => im _ (pq_inj (by omega))) (fun _ _ => rfl) rfl (fun K h => by rw [r21 K (by omega)]) (fun K r h1 h2 _ _ => by rw [r21 K (by omega)]) (fun K r h1 h2 _ => by rw [r21 K (by omega)]) (fun K h => r21 K (by unfold PRr at h; omega)) rfl, ⟨by rw [fm 1105 (np _ (by omega))]; exact q2, by rw [wa_rne (by omega)]; exact q3⟩, ⟨f9, by rw [ROs_eq (fun K h => r21 K (by unfold PRr at h; omega))]; exact q4⟩, ⟨by rw [fm _ (pq_inj (by omega))]; exact q5, by rw [wa_rne (by omega)]; exact q6⟩, GD_w q7 (im _ (pq_inj (by omega))) rfl rfl (fun k h1 h2 => im k (np k (by omega))) (fun _ _ => rfl) rfl (fun K h => r21 K (by unfold PRr at h; omega)) rfl, ⟨by rw [fm 1108 (np _ (by omega))]; exact q8, by rw [fm 1109 (np _ (by omega))]; exact q9, q10⟩, q11, by rw [im 1106 (np _ (by omega))]; exact q12, by rw [im 1107 (np _ (by omega))]; exact q13⟩ (GGm.tr (GGm.tr (GGm_fg f8) (GGm_own (by omega))) (GGm_reg (by omega))) (GGw.tr (GGw_fg g8 hj) (GGw_own (Or.inl ⟨by omega, rfl⟩))) ?_
    · refine PLs_cg (PLs_pc (z := ((a + 2 : Nat) : Int)) pl8) (fun k hk => im _ (pq_inj (by simp at hk; omega))) (fun _ _ => rfl) (fun _ _ => rfl) (fun _ _ => rfl) (fun _ _ => rfl) (fun k hk => by rw [r21 k (by simp at hk; omega)]) (fun _ _ => rfl) (fun _ _ => rfl) (fun _ _ => rfl) (fun _ _ => rfl)
    · obtain ⟨s1, s2, s3, s4, s5, s6⟩ := s8
      refine ⟨by rw [im _ (pq_inj (by omega)), r21 113 (by omega)]; exact s1, by rw [im _ (pq_inj (by omega)), r21 114 (by omega)]; exact s2, ?_, by rw [im _ (pq_inj (by omega)), r21 117 (by omega)]; exact s4, by rw [im _ (pq_inj (by omega)), r21 115 (by omega)]; exact s5, fun i hi => ?_⟩
      · rw [wa_s1, wi_1 (fun c => pq_n (by omega) c.symm), wi_s1]
      · rw [r21 116 (by omega)]
        exact s6 i (by rw [← fm _ (pq_inj (by omega))]; exact hi)
  have Ge : ∀ zz : Int32, (t = mk 1 0 ∧ zz = 1) ∨ (t ≠ mk 1 0 ∧ zz = 0) → ∀ u : MS, bnd (hm_Ma_atom N u 0) (fun u9 r9 => br (decide ((lg_cmp t r9) = 0)) (hb_Ma_alone_216 N () u9 p p (1)) (hb_Ma_alone_216 N () u9 p p (0))) = hb_Ma_alone_216 N () u p p zz := fun zz h u => by
    rw [show hm_Ma_atom N u 0 = some (u, mk 1 0) from rfl, bnd_so]
    rcases h with ⟨h, rfl⟩ | ⟨h, rfl⟩
    · rw [dec_lg h, br_tq]
    · rw [dec_lg0 h, br_fq]
  have Ge' : ∀ zz : Int32, (x = mk 1 0 ∧ zz = 1) ∨ (x ≠ mk 1 0 ∧ zz = 0) → ∀ u : MS, bnd (fm_M_truth N u 1) (fun u15 r15 => br (decide ((lg_cmp x r15) = 0)) (fb_M_predefinedRun_251 N () u15 (112) ((u.1 133)) (1)) (fb_M_predefinedRun_251 N () u15 (112) ((u.1 133)) (0))) = fb_M_predefinedRun_251 N () u 112 (u.1 133) zz := fun zz h u => by
    rw [truth1, bnd_so]
    rcases h with ⟨h, rfl⟩ | ⟨h, rfl⟩
    · rw [dec_lg h, br_tq]
    · rw [dec_lg0 h, br_fq]
  by_cases e0 : t = mk 1 0
  · have x0 := (RTb_at rt).mp e0
    rw [dec_lg e0, br_tq, isTr_1 (Or.inl x0), bnd_so, show decide ((1 : Int32) = 0) = false from rfl, br_fq]
    refine rb_ck (fun _ => ?_)
    rw [I_F' x33', tnI (n := p) rfl (by omega)]
    unfold hb_Ma_alone_183
    exact sett 1 (Or.inr rfl) 1 rfl _ (Ge 1 (Or.inl ⟨e0, rfl⟩)) _ (Ge' 1 (Or.inl ⟨x0, rfl⟩))
  · have x0 : x ≠ mk 1 0 := fun z => e0 ((RTb_at rt).mpr z)
    rw [dec_lg0 e0, br_fq, show hm_Ma_atom N m 1 = some (m, mk 1 1) from rfl, bnd_so]
    by_cases e1 : t = mk 1 1
    · have x1 := (RTb_at rt).mp e1
      rw [dec_lg e1, br_tq, isTr_1 (Or.inr x1), bnd_so, show decide ((1 : Int32) = 0) = false from rfl, br_fq]
      refine rb_ck (fun _ => ?_)
      rw [I_F' x33', tnI (n := p) rfl (by omega)]
      unfold hb_Ma_alone_183
      exact sett 0 (Or.inl rfl) 0 rfl _ (Ge 0 (Or.inr ⟨e0, rfl⟩)) _ (Ge' 0 (Or.inr ⟨x0, rfl⟩))
    · have x1 : x ≠ mk 1 1 := fun z => e1 ((RTb_at rt).mpr z)
      rw [dec_lg0 e1, br_fq, isTr_0 x0 x1, bnd_so, show decide ((0 : Int32) = 0) = true from rfl, br_tq, wrong_e9, bnd_so, bnd_so, pre_tl ⟨by omega, by omega⟩ (by omega), bnd_so]
      refine r_bb ?_
      exact kX w3 pd g3 ⟨by rw [← hw3]; rfl, by rw [← hw3]; rfl⟩
end
end
section
set_option maxRecDepth 100000
theorem va_1m {f : Nat} (h : f < 100000) : va (mk 8 ((1000000 + f : Nat) : Int)) = ((1000000 + f : Nat) : Int) := va_mk (by omega) (by omega)
section
variable {α β : Type} {b : Int → Nat → Nat → Prop} {Fv Fv' : Int64 → Int64 → Prop} {P P' : Int64 → Prop} {ow kd ow' kd' : Nat → Nat} {N p U B W Y l j a n uu bb ff ee ee' : Nat} {m w : MS} {nb : Nat → Nat} {Hs Os : Nat → List Nat} {y : Option (Nat × Nat × Nat)} {v : Int} {Q : MS → α → MS → β → Prop} {K1 : MS → Option (MS × α)} {K2 : MS → Option (MS × β)}
theorem op_funOf (hpp : p < 24) (pl : PLs b p m w U B W Y) (ru : RUs m w p j nb Hs Os y a n) (hW : W < 46000) (pt : PTQ m p U ow kd Fv P B W Y) (cx : CTX Fv P m) (xc : CX w p (hp w p) U ow' kd' Fv' P' W B Y) (h140 : F w 140 = -1) (h27 : A w 27 n = ((ff : Nat) : Int)) (hff : ff < 100000) (c1 : A m 23 (a + 1) = ((ff : Nat) : Int)) (hee : F m 955 = ((ee : Nat) : Int) ∧ ee < 24) (hee' : F w 150 = ((ee' : Nat) : Int) ∧ ee' < 4000) (hN : 2200000 ≤ N) (cr : ∃ f, CRs (A m 23) (ROs w) (w.2.2.2 34) f y (a + 2) (n + 1) (Hs j) (Os j))
    (kS : ∀ b3 U3 m3 w3, PLs b3 p m3 w3 U3 B (W + 1) Y → RUs m3 w3 p j nb Hs Os y (a + 2) (n + 1) → FGm p m m3 → FGw p j w w3 → PP Q (K1 m3) (K2 w3))
    (kE : ∀ m3 w3, FGm p m m3 → FGw p j w w3 → m3.1 (pq p 5) = w3.2.2.1 90 p → PP Q (K1 (enS m3 p (mk 1 20) p ee)) (K2 (wi (enR w3 p 0 ((p : Nat) : Int) (mk 1 20) ee') 151 1))) : PP Q (bnd (hm_Ma_making N m p (I 7)) (fun u _ => K1 u)) (bnd (fm_M_one N w (I ((n : Nat) : Int)) (I 15)) (fun u _ => K2 u)) := by
  obtain ⟨⟨fa, ct⟩, ⟨r2, r3⟩, ⟨f0, cr0⟩, ⟨r5, r6⟩, r7, ⟨r8, r9, r10⟩, r11, r12, r13⟩ := id ru
  have cb := CR_b cr0
  have hj : j < 60 := fa.1.2.2
  rw [mak7, one_15, I_F' r2, show I ((a : Nat) : Int) + 1 = I ((a + 1 : Nat) : Int) from addN, Co_e (k := a + 1) rfl (by omega), bnd_so, c1, show I ((n : Nat) : Int) + 1 = I ((n + 1 : Nat) : Int) from addN]
  refine l_bb (r_bb ?_)
  refine r_bnd (pk_mo (goto_r (N := N) (n := ((n + 1 : Nat) : Int)) hpp r11 fa.1.2.1 hj) (fun w1 _ e => ?_))
  subst e
  refine r_bb ?_
  generalize hw1 : wa w 98 (60 * p + j) ((n + 1 : Nat) : Int) = w1
  have g1 : FGw p j w w1 := by rw [← hw1]; exact FGw.goto
  have pl1 : PLs b p m w1 U B W Y := by rw [← hw1]; exact PLs_98 pl
  have x33 : F w1 133 = ((p : Nat) : Int) := by rw [← hw1]; exact r11
  have x98 : A w1 98 (60 * p + j) = ((n + 1 : Nat) : Int) := by rw [← hw1, wa_sm (by omega) (by omega)]
  have xc1 : CX w1 p (hp w1 p) U ow' kd' Fv' P' W B Y := by rw [← hw1]; exact CX_98 xc
  have y40 : F w1 140 = -1 := by rw [← hw1]; exact h140
  have a1 : ∀ K i, K ≠ 98 → A w1 K i = A w K i := fun K i h => by rw [← hw1, wa_rne h]
  unfold hm_Ma_funOf hb_Ma_funOf_0 fm_M_funRun fb_M_funRun_0 fb_M_funRun_23
  refine rb_ck (fun _ => ?_)
  rw [show decide (I 15 = 15) = true from rfl, br_tq, tnI (n := n) rfl (by omega)]
  have e9 : F m (pq p 9) ≠ 3 := by rw [r5]; omega
  have key : ∀ (M : Nat) (uz : Int32), PP Q (bnd (bnd (hm_Ma_room N m p 2) (fun u1 r1 => br (decide (r1 = 0)) (some (u1, ())) (bnd (hm_Te_make N u1 8 (1000000 + I ((ff : Nat) : Int))) (fun u8 r8 => ck (inb (u1.1 (pq p 4)) 512) (lt (upJ u8 (pq p 2) (vp_updL (u8.2.2.2 (pq p 2)) (u1.1 (pq p 4)).toNatClampNeg r8)) (fun w10 => bnd (hm_Te_make N w10 8 0) (fun u14 r14 => ck (inb ((u1.1 (pq p 4)) + 1) 512) (lt (upJ u14 (pq p 2) (vp_updL (u14.2.2.2 (pq p 2)) ((u1.1 (pq p 4)) + 1).toNatClampNeg r14)) (fun w16 => lt (upI w16 (pq p 4) ((w16.1 (pq p 4)) + 2)) (fun w20 => bnd (hm_Te_make N w20 3 (u1.1 (pq p 4))) (fun u22 r22 => bnd (hm_Fr_push N u22 p r22) (fun u23 r23 => lt (upI u23 1105 ((u23.1 1105) + 2)) (fun w26 => some (w26, ())))))))))))))) (fun u r => bnd (some (u, ())) (fun u _ => K1 u))) (bnd (funB N M w1 (I ((n : Nat) : Int)) (I 15) uz 0) (fun u r => bnd (some (u, ())) (fun u _ => K2 u))) := fun M uz => by
    unfold funB
    rw [I_F' x33, show (2 : Int32) = I ((2 : Nat) : Int) from rfl, show I ((2 : Nat) : Int) + 0 = I ((2 : Nat) : Int) from rfl]
    refine l_bb (r_bb ?_)
    refine pp_bb (pp_mo (room_pp (N := N) (k := 2) pt cx xc1 pl1 y40 (by omega) e9 hee hN) (fun m4 r4 w4 r5' q9 => ?_))
    rcases q9 with ⟨rfl, rfl, a4, a5, b2', U2, pl4, rm4, ⟨ow2, kd2, pt4⟩, -⟩ | ⟨rfl, rfl, m5, a4, a5, rfl, h5⟩
    · rw [show decide ((1 : Int32) = 0) = false from rfl, br_fq, br_fq]
      have fm4 : FGm p m m4 := FGm_xr a4
      have fw4 : FGw p j w1 w4 := FGw_xr a5
      have z33 : F w4 133 = ((p : Nat) : Int) := by rw [FR.F a5.1 (by simp)]; exact x33
      have z89 : A w4 89 p = ((U2 : Nat) : Int) := pl4.1.1.2.1
      have z92 : A w4 92 p = ((W : Nat) : Int) := pl4.2.2.1.2.1
      have z4 : F m4 (pq p 4) = ((U2 : Nat) : Int) := pl4.1.1.1
      obtain ⟨l4, e1, e2, e3⟩ := pt4.2.2.2.2.2.1
      have e5 : F m4 1105 = ((a : Nat) : Int) := by rw [FR.F a4 (by simp [pq_n])]; exact r2
      rw [show (8 : Int32) = I 8 from rfl, show (1000000 : Int32) + I ((ff : Nat) : Int) = I ((1000000 + ff : Nat) : Int) from addN, e_make, bnd_so, I_F' z4, (I_inb (by omega) (by omega)).mpr ⟨by omega, by omega⟩, ck_t, tnI (n := U2) rfl (by omega), wj_e, lt_e]
      rw [show hm_Te_make N (wj m4 (pq p 2) U2 (mk 8 ((1000000 + ff : Nat) : Int))) (I 8) 0 = some (wj m4 (pq p 2) U2 (mk 8 ((1000000 + ff : Nat) : Int)), mk 8 0) from rfl, bnd_so, show I ((U2 : Nat) : Int) + 1 = I ((U2 + 1 : Nat) : Int) from addN, (I_inb (by omega) (by omega)).mpr ⟨by omega, by omega⟩, ck_t, tnI (n := U2 + 1) rfl (by omega), wj_e, lt_e]
      have z4' : F (wj (wj m4 (pq p 2) U2 (mk 8 ((1000000 + ff : Nat) : Int))) (pq p 2) (U2 + 1) (mk 8 0)) (pq p 4) = ((U2 : Nat) : Int) := z4
      rw [I_F' z4', addN, wi_e, lt_e, show (3 : Int32) = I 3 from rfl, e_make, bnd_so]
      generalize hm6 : wi (wj (wj m4 (pq p 2) U2 (mk 8 ((1000000 + ff : Nat) : Int))) (pq p 2) (U2 + 1) (mk 8 0)) (pq p 4) ((U2 + 2 : Nat) : Int) = m6
      have g6 : FR [pq p 4] [] [] [pq p 2] m4 m6 := by rw [← hm6]; exact FR.wi (FR.wj (FR.wj FR.rf (by simp)) (by simp)) (by simp)
      have e26 : F m6 (pq p 26) = ((W : Nat) : Int) := by rw [FR.F g6 (by simp; exact pq_inj (by omega))]; exact pl4.2.2.1.1
      have e45 : F m6 (pq p 45) = ((l4 : Nat) : Int) := by rw [FR.F g6 (by simp; exact pq_inj (by omega))]; exact e1
      refine l_bb ?_
      refine l_bnd (pk_mo (push_m (N := N) (t := mk 3 ((U2 : Nat) : Int)) e26 e45 e2 e3) (fun m7 _ hh => ?_))
      obtain ⟨z1, z2, z3⟩ := hh
      have e57 : F m7 1105 = ((a : Nat) : Int) := by rw [FR.F z1 (by simp [pq_n]), FR.F g6 (by simp [pq_n])]; exact e5
      rw [I_F' e57, addN, wi_e]
      refine rb_ck (fun _ => ?_)
      rw [lt_e]
      refine rb_ck (fun _ => rb_ck (fun _ => ?_))
      rw [I_F' z33, tnI (n := p) rfl (by omega), I_A' z89, addN, wa_e, lt_e, show decide (I 15 = 15) = true from rfl, br_tq]
      refine rb_ck (fun _ => ?_)
      have z27 : A (wa w4 89 p ((U2 + 2 : Nat) : Int)) 27 n = ((ff : Nat) : Int) := by rw [wa_rne (by omega), FR.A a5.1 (by simp), a1 27 n (by omega)]; exact h27
      unfold fb_M_funRun_177
      refine rb_ck (fun _ => rb_ck (fun _ => ?_))
      have z33' : F (wa w4 89 p ((U2 + 2 : Nat) : Int)) 133 = ((p : Nat) : Int) := z33
      have sp : I ((p : Nat) : Int) * 500 + I ((U2 : Nat) : Int) = I ((500 * p + U2 : Nat) : Int) := by
        rw [show (500 : Int32) = I 500 from rfl, I_mul, I_add]
        congr 1
        omega
      rw [I_F' z33', sp, tnI (n := 500 * p + U2) rfl (by omega), tnI (n := n) rfl (by omega), I_A' z27, wj_e, lt_e]
      refine rb_ck (fun _ => ?_)
      have z33'' : F (wj (wa w4 89 p ((U2 + 2 : Nat) : Int)) 88 (500 * p + U2) (-1 - (I ((ff : Nat) : Int)).toInt64)) 133 = ((p : Nat) : Int) := z33
      rw [I_F' z33'', sp, show I ((500 * p + U2 : Nat) : Int) + 1 = I ((500 * p + U2 + 1 : Nat) : Int) from addN, tnI (n := 500 * p + U2 + 1) rfl (by omega), wj_e, lt_e]
      generalize hw6 : wj (wj (wa w4 89 p ((U2 + 2 : Nat) : Int)) 88 (500 * p + U2) (-1 - (I ((ff : Nat) : Int)).toInt64)) 88 (500 * p + U2 + 1) (0 : Int32).toInt64 = w6
      have fr6 : FR [] [] [89] [88] w4 w6 := by rw [← hw6]; exact FR.wj (FR.wj (FR.wa FR.rf (by simp)) (by simp)) (by simp)
      have z336 : F w6 133 = ((p : Nat) : Int) := by rw [FR.F fr6 (by simp)]; exact z33
      have z926 : A w6 92 p = ((W : Nat) : Int) := by rw [FR.A fr6 (by simp)]; exact z92
      cases M with
      | zero => exact pp_nr
      | succ M =>
      show PP Q _ (bnd (fb_M_funRun_202 N (gg_M_funRun N M) w6 uz 0 (I ((U2 : Nat) : Int)) 0) (fun u r => bnd (some (u, ())) (fun u _ => K2 u)))
      unfold fb_M_funRun_202
      rw [show decide ((0 : Int32) ≤ 0) = true from rfl, br_tq, show (3 : Int32) = I 3 from rfl, term_e]
      show PP Q _ (bnd (bnd (fm_M_put N w6 (mk 3 ((U2 : Nat) : Int))) (fun u2 _ => some (u2, ()))) (fun u r => bnd (some (u, ())) (fun u _ => K2 u)))
      refine rb_bnd (pk_mo (put_r (N := N) (x := mk 3 ((U2 : Nat) : Int)) hpp z336 z926 (by omega)) (fun w7 _ e => ?_))
      subst e
      show PP Q (K1 (wi m7 1105 ((a + 2 : Nat) : Int))) (K2 _)
      generalize hw7 : wa (wj w6 91 (46000 * p + W) (mk 3 ((U2 : Nat) : Int))) 92 p ((W + 1 : Nat) : Int) = w7
      have f7 : FR [] [] [89, 92] [88, 91] w4 w7 := by
        rw [← hw7]
        exact FR.wa (FR.wj (FR.mo fr6 (by simp) (by simp) (by simp) (by simp)) (by simp)) (by simp)
      have w788 : w7.2.2.2 88 = w6.2.2.2 88 := by
        rw [← hw7]
        show (wj w6 91 (46000 * p + W) (mk 3 ((U2 : Nat) : Int))).2.2.2 88 = _
        rw [wj_22 (by omega)]
      have w688 : ∀ q, w6.2.2.2 88 q = if q = 500 * p + U2 + 1 then (0 : Int32).toInt64 else if q = 500 * p + U2 then -1 - (I ((ff : Nat) : Int)).toInt64 else w4.2.2.2 88 q := fun q => by rw [← hw6, wj_row, wj_row]; rfl
      have w791 : ∀ i, w7.2.2.2 91 i = if i = 46000 * p + W then mk 3 ((U2 : Nat) : Int) else w4.2.2.2 91 i := fun i => by
        rw [← hw7]
        show (wj w6 91 (46000 * p + W) _).2.2.2 91 i = _
        rw [wj_row, fr6.2.2.2 91 (by simp)]
      have j62 : m7.2.2.2 (pq p 2) = m6.2.2.2 (pq p 2) := z1.2.2.2 _ (by simp; exact pq_inj (by omega))
      have m62 : ∀ q, m6.2.2.2 (pq p 2) q = if q = U2 + 1 then mk 8 0 else if q = U2 then mk 8 ((1000000 + ff : Nat) : Int) else m4.2.2.2 (pq p 2) q := fun q => by
        rw [← hm6]
        show (wj (wj m4 (pq p 2) U2 (mk 8 ((1000000 + ff : Nat) : Int))) (pq p 2) (U2 + 1) (mk 8 0)).2.2.2 (pq p 2) q = _
        rw [wj_row, wj_row]
      have m635 : m6.2.2.2 (pq p 35) = m4.2.2.2 (pq p 35) := g6.2.2.2 _ (by simp; exact pq_inj (by omega))
      have hw70 : hp w7 p U2 = -1 - (I ((ff : Nat) : Int)).toInt64 := by
        show w7.2.2.2 88 (500 * p + U2) = _
        rw [w788, w688, if_neg (by omega), if_pos rfl]
      have hw71 : hp w7 p (U2 + 1) = (0 : Int32).toInt64 := by
        show w7.2.2.2 88 (500 * p + (U2 + 1)) = _
        rw [w788, w688, if_pos (by omega)]
      have d1 : (-1 - (I ((ff : Nat) : Int)).toInt64).toInt = -1 - ((ff : Nat) : Int) := by
        rw [Int64.toInt_sub, toI64, I_ti (by omega) (by omega), show (-1 : Int64).toInt = -1 from by decide]
        exact Int.bmod_eq_of_le (by omega) (by omega)
      have ti := fun_iso (l := 0) (h2 := m7.2.2.2 (pq p 2)) (h2' := hp w7 p) (tt := fun _ => mk 6 0) (xx := fun _ => mk 6 0) pl4.1.2.1 (by omega) (Or.inr ⟨ff, hff, by rw [j62, m62, if_neg (by omega), if_pos rfl]; exact va_1m hff, by rw [hw70]; exact d1⟩) (by rw [j62, m62, if_pos rfl]; unfold vn; rw [va_mk (by omega) (by omega)]; rfl) (by rw [hw71]; unfold vn; rw [va_w]; rfl) (fun q hq => by omega) (fun q hq => by omega) (fun q hq => by omega) (fun i hi => by rw [j62, m62, if_neg (by omega), if_neg (by omega)]) (fun i hi => by
        show w7.2.2.2 88 (500 * p + i) = _
        rw [w788, w688, if_neg (by omega), if_neg (by omega)]
        rfl)
      have t1' : FR [pq p 4, pq p 26, pq p 45, 1105] [] [] [pq p 2, pq p 35] m4 (wi m7 1105 ((a + 2 : Nat) : Int)) := FR.wi (FR.tr (FR.mo g6 (by simp) (by simp) (by simp) (by simp)) (FR.mo z1 (by simp) (by simp) (by simp) (by simp))) (by simp)
      have e89 : A w7 89 p = ((U2 + 2 : Nat) : Int) := by
        rw [← hw7, wa_rne (by omega)]
        show A w6 89 p = _
        rw [← hw6]
        show A (wa w4 89 p ((U2 + 2 : Nat) : Int)) 89 p = _
        rw [wa_sm (by omega) (by omega)]
      have e92 : A w7 92 p = ((W + 1 : Nat) : Int) := by rw [← hw7, wa_sm (by omega) (by omega)]
      have e4 : F (wi m7 1105 ((a + 2 : Nat) : Int)) (pq p 4) = ((U2 + 2 : Nat) : Int) := by
        rw [wi_ne (fun c => pq_n (by omega) c.symm), FR.F z1 (by simp; exact ⟨pq_inj (by omega), pq_inj (by omega)⟩), ← hm6, wi_sm (by omega) (by omega)]
      have fm7 : FGm p m (wi m7 1105 ((a + 2 : Nat) : Int)) := FGm.tr fm4 (FR.mo t1' (by simp) (by simp) (by simp) (by simp))
      have fw7 : FGw p j w1 w7 := by
        refine FGw.tr fw4 (FGw_mk f7 (fun r hr => ?_) (fun r hr => ?_) (fun i hi => ?_) (fun i hi => ?_))
        · rw [← hw7, wa_rne (by omega)]
          show A w6 89 r = _
          rw [← hw6]
          show A (wa w4 89 p ((U2 + 2 : Nat) : Int)) 89 r = _
          rw [wa_ro (by omega) (by omega), if_neg hr]
        · rw [← hw7, wa_ro (by omega) (by omega), if_neg hr]
          show A w6 92 r = _
          rw [FR.A fr6 (by simp)]
        · rw [w788, w688, if_neg (by omega), if_neg (by omega)]
        · rw [w791, if_neg (by omega)]
      have x98' : A w7 98 (60 * p + j) = ((n + 1 : Nat) : Int) := by rw [FR.A f7 (by simp), FR.A a5.1 (by simp)]; exact x98
      exact kS _ _ _ w7 (PLs_mk pl4 (fun _ _ _ h => Or.inl h) t1' e4 (by rw [wi_ne (fun c => pq_n (by omega) c.symm)]; exact z2) (Nat.le_refl _) (fun i hi => by
        show m7.2.2.2 (pq p 35) i = _
        rw [z3 i hi, m635]) f7 e89 rm4 e92 (fun i hi => by
        rw [w791]
        by_cases c : i = W
        · rw [if_pos c, if_pos (by omega)]
        · rw [if_neg c, if_neg (by omega)]) ti.1 ti.2) (RUs_mv ru fm7 (FGw.tr g1 fw7) (wi_sm (by omega) (by omega)) x98' cr) fm7 (FGw.tr g1 fw7)
    · rw [show decide ((0 : Int32) = 0) = true from rfl, br_tq, br_tq]
      have z33 : F w4 133 = ((p : Nat) : Int) := by rw [FR.F a5.1 (by simp)]; exact x33
      have g4 : FGw p j w w4 := FGw.tr g1 (FGw_xr a5)
      have e109 : A w4 109 p ≠ 3 := by
        rw [FR.A g4.1 (by simp), r6]; omega
      have e150 : F w4 150 = ((ee' : Nat) : Int) := by
        rw [FR.F g4.1 (by simp)]; exact hee'.1
      rw [noR_e hpp z33 e109 e150 hee'.2]
      exact kE m5 w4 (FGm_xr a4) g4 h5
  obtain ⟨N', rfl⟩ : ∃ N', N = N' + 1 := ⟨N - 1, by omega⟩
  show PP Q _ (bnd (fb_M_funRun_34 (N' + 1) (gg_M_funRun (N' + 1) N') w1 (I ((n : Nat) : Int)) (I 15) (w1.2.2.1 25 n) 0 (2 + 0) 0) (fun u r => bnd (some (u, ())) (fun u _ => K2 u)))
  unfold fb_M_funRun_34
  rw [show decide ((0 : Int32) ≤ 0) = true from rfl, br_tq, show decide ((2 : Int32) + 0 ≤ 500) = true from rfl, br_tq]
  exact key N' _
end
end
section
set_option maxRecDepth 100000
section
variable {b : Int → Nat → Nat → Prop} {Fv Fv' : Int64 → Int64 → Prop} {P P' : Int64 → Prop} {N PR q r p i j0 j U B W Y a n : Nat} {m w m2 w2 : MS} {cur : Option Nat} {RR : Nat → MS → MS → Prop} {nb : Nat → Nat} {Hs Os : Nat → List Nat} {y : Option (Nat × Nat × Nat)} {z x1 x2 : Int} {k1 k2 : Nat}
theorem wi_cm (h : k1 ≠ k2) : wi (wi m k1 x1) k2 x2 = wi (wi m k2 x2) k1 x1 := by
  unfold wi upI
  refine Prod.ext (funext fun k => ?_) rfl
  show (if k = k2 then _ else if k = k1 then _ else m.1 k) = (if k = k1 then _ else if k = k2 then _ else m.1 k)
  by_cases c : k = k2
  · rw [if_pos c, if_neg (by omega), if_pos c]
  · rw [if_neg c, if_neg c]
theorem pq_ne2 {k l : Nat} (hk : k < 100) (hl : l < 100) (h : k ≠ l) : pq q k ≠ pq r l := fun c => h (pq_e hk hl c).2
theorem nm_m {k : Nat} (hk : k < 100) (h : k ≠ 12) : (wi m (pq q 12) z).1 (pq r k) = m.1 (pq r k) := wi_1 (pq_ne2 hk (by omega) h)
theorem nm_mr {d k : Nat} (hk : k < 100) (h : d ≠ q) : (wi m (pq q 12) z).1 (pq d k) = m.1 (pq d k) := wi_1 (fun c => h (pq_e hk (by omega) c).1)
theorem nm_f : FR [pq q 12] [] [] [] m (wi m (pq q 12) z) := FR.wi FR.rf (by simp)
theorem nm_g : FR [] [] [113] [] w (wa w 113 q z) := FR.wa FR.rf (by simp)
theorem nm_pg : PGs m w (wi m (pq q 12) z) (wa w 113 q z) := PGs_fr nm_f nm_g (fun k hk => by simp at hk; unfold pq at hk; omega) (by simp) (by simp) (by simp) (by simp [PRr]) (by simp)
theorem nm_n : EQn r m (wi m (pq q 12) z) := ⟨fun k hk h => nm_m hk (by simp at h; omega), fun _ _ _ => rfl, fun _ _ _ => rfl, rfl⟩
theorem nm_v : EQv r w (wa w 113 q z) := ⟨fun K k _ _ h => wa_at (by omega), rfl, fun K h => wa_21 (by unfold PRr at h; omega), rfl⟩
theorem RUs_nm (h : RUs m w p j nb Hs Os y a n) : RUs (wi m (pq q 12) z) (wa w 113 q z) p j nb Hs Os y a n := RUs_st h nm_n nm_v nm_pg
theorem PLs_nm (pl : PLs b r m w U B W Y) : PLs b r (wi m (pq q 12) z) (wa w 113 q z) U B W Y := PLs_cg pl (fun k hk => nm_m (by simp at hk; omega) (by simp at hk; omega)) (fun _ _ => rfl) (fun _ _ => rfl) (fun _ _ => rfl) (fun _ _ => rfl) (fun k hk => by rw [wa_21 (by simp at hk; omega)]) (fun _ _ => rfl) (fun _ _ => rfl) (fun _ _ => rfl) (fun _ _ => rfl)
theorem SCs_nm (s : SCs r m w) : SCs r (wi m (pq q 12) z) (wa w 113 q z) := by
  obtain ⟨s1, s2, s3, s4, s5, s6⟩ := s
  refine ⟨?_, by rw [nm_m (by omega) (by omega), wa_21 (by omega)]; exact s2, by rw [nm_m (by omega) (by omega), wa_21 (by omega)]; exact s3, by rw [nm_m (by omega) (by omega), wa_21 (by omega)]; exact s4, by rw [nm_m (by omega) (by omega), wa_21 (by omega)]; exact s5, fun i hi => ?_⟩
  · by_cases c : r = q
    · subst c
      rw [wi_s1, wa_s1]
    · rw [nm_mr (by omega) c, wa_at (by omega)]
      exact s1
  · rw [wa_21 (by omega)]
    refine s6 i ?_
    have : F (wi m (pq q 12) z) (pq r 15) = F m (pq r 15) := congrArg Int32.toInt (nm_m (by omega) (by omega))
    rw [← this]
    exact hi
theorem SFs_nm (sf : SFs Fv P Fv' P' PR m w) : SFs Fv P Fv' P' PR (wi m (pq q 12) z) (wa w 113 q z) := by
  obtain ⟨⟨d, cx⟩, ⟨dw, lk, wt⟩, pb⟩ := sf
  have g : FR [] [] [113] [] w (wa w 113 q z) := nm_g
  have f : FR ([12].map (pq q)) [] [] (([] : List Nat).map (pq q)) m (wi m (pq q 12) z) := nm_f
  have fc : FC q [] [] [] [12] [] [] [] m (wi m (pq q 12) z) := FC.ofq f (by simp) (by simp)
  have e : ∀ k, k < 2000 → F (wi m (pq q 12) z) k = F m k := fun k h => wi_ne (fun c => pq_n h c)
  have e2 : ∀ k, k < 100 → k ≠ 12 → F (wi m (pq q 12) z) (pq q k) = F m (pq q k) := fun k h1 h2 => congrArg Int32.toInt (nm_m h1 h2)
  refine ⟨⟨DWc_gl d fc (by simp) (by simp) (fun hq => ?_) (by simp) (by rw [e 950 (by omega)]; exact d.1.2.2.1) (by rw [e 956 (by omega)]; exact ⟨d.1.2.2.2.1.2.1, d.1.2.2.2.1.2.2⟩) (by simp), CTX_fr cx (wi_1 (fun c => pq_n (by omega) c)) rfl⟩, ⟨DW_fr dw g (by simp) (by simp) (by simp) (by simp) (by simp) (by simp) (by simp) (by simp) (by simp) (by simp) (by simp) (by simp) (by simp) (by simp) (by simp) (by simp) (by simp), LK_fr lk g (by simp) (by simp), WTQ_fr wt g (by simp) (by simp) (by simp)⟩, pb⟩
  have h := (d.2 q hq).1
  unfold SMQ at h ⊢
  rw [e2 15 (by omega) (by omega), e2 8 (by omega) (by omega), e2 9 (by omega) (by omega), e2 7 (by omega) (by omega)]
  exact h
theorem WL_nm (W0 : WLs RR PR Fv P Fv' P' cur i j0 m w) (al : F m (pq q 9) ≠ 3) (alw : A w 109 q ≠ 3) : WLs RR PR Fv P Fv' P' cur i j0 (wi m (pq q 12) z) (wa w 113 q z) := by
  have f9 : ∀ d, F (wi m (pq q 12) z) (pq d 9) = F m (pq d 9) := fun d => congrArg Int32.toInt (nm_m (by omega) (by omega))
  have a9 : ∀ d, A (wa w 113 q z) 109 d = A w 109 d := fun d => wa_rne (by omega)
  have lm : ∀ d, d ≠ q → LOCm d m (wi m (pq q 12) z) := fun d h k hk => ⟨nm_mr hk h, rfl, rfl, rfl⟩
  have lw : ∀ d, d ≠ q → LOCw d w (wa w 113 q z) := fun d h => ⟨fun K k ho => wa_at (fun c => by
    obtain ⟨rfl, rfl⟩ := c
    rcases ho with ho | ho | ho | ho
    · exact h ho.2.symm
    · omega
    · omega
    · omega), fun K hK => by rw [wa_21 (by omega)], fun k _ _ => by rw [wa_21 (by omega)], rfl, fun _ _ _ => rfl, fun _ _ _ => rfl, fun _ _ _ => rfl, fun _ _ _ => rfl⟩
  have dq : ∀ d, F m (pq d 9) = 3 → d ≠ q := fun d hd c => al (by rw [← c]; exact hd)
  refine WL_gen W0 (SFs_nm W0.1) (fun d hd => ⟨by rw [f9]; exact hd, rfl, nm_m (by omega) (by omega), rfl⟩) (fun d _ => ⟨fun k _ => rfl, wa_rne (by omega)⟩) (fun d hd => by rw [a9]; exact hd) (fun d _ hd2 _ h => QEs_st h (lm d (dq d hd2)) (lw d (dq d hd2))) (fun d _ _ h => DEs_st h nm_pg.1 (lm d (dq d h.1)) (lw d (dq d h.1)) (fun d hd => ⟨by rw [f9]; exact hd, rfl⟩)) (fun d hd x1 x2 x3 => ?_) ?_
  · obtain ⟨b, U, B, W, Y, pl, sc, rr⟩ := x3
    exact Or.inl ⟨by rw [f9]; exact x1, by rw [a9]; exact x2, b, U, B, W, Y, PLs_nm pl, SCs_nm sc, W0.2.2.2 _ _ _ _ _ rr nm_n nm_v nm_pg⟩
  · obtain ⟨n, q1, q2, -⟩ := W0.2.1
    exact ⟨i + n, j0 + n, q1, q2, fun k _ => rfl, fun k _ => ⟨fun K hK => wa_rne (by omega), rfl⟩, Or.inl ⟨by rw [wi_ne (fun c => pq_n (by omega) c)]; exact q1, q2⟩⟩
theorem FGw_swA (g : FGw p j w w2) : FGw p j (wa w 113 q z) (wa w2 113 q z) := by
  obtain ⟨⟨g1, g2, g3, g4⟩, g5, g6, g7⟩ := g
  refine ⟨⟨g1, g2, fun K hK => ?_, g4⟩, fun k hk => ?_, fun k hk => by rw [wa_rne (by omega), wa_rne (by omega)]; exact g6 k hk, g7⟩
  · by_cases c : K = 113
    · subst c
      have e : ∀ u : MS, (wa u 113 q z).2.2.1 113 = upd (u.2.2.1 113) q (I z) := fun u => by
        show (if (113 : Nat) = 113 then upd (u.2.2.1 113) q (I z) else u.2.2.1 113) = _
        rw [if_pos rfl]
      rw [e, e, g3 113 hK]
    · rw [wa_21 c, wa_21 c]
      exact g3 K hK
  · rw [wa_rne (by omega), wa_rne (by omega), wa_rne (by omega), wa_rne (by omega), wa_21 (by omega), wa_21 (by omega)]
    exact g5 k hk
end
section
variable {N p : Nat} {u w : MS}
theorem pm12 : hm_Ma_predefined N u p (I 12) = bnd (hm_Ma_naming N u p (I 12)) (fun u6 _ => hb_Ma_predefined_146 N () u6 p) := rfl
theorem pm13 : hm_Ma_predefined N u p (I 13) = bnd (hm_Ma_naming N u p (I 13)) (fun u6 _ => hb_Ma_predefined_146 N () u6 p) := rfl
theorem pm14 : hm_Ma_predefined N u p (I 14) = bnd (hm_Ma_naming N u p (I 14)) (fun u6 _ => hb_Ma_predefined_146 N () u6 p) := rfl
theorem pr13 : fm_M_predefinedRun N w (I 13) = bnd (fm_M_nameRun N w (I 13)) (fun u _ => some (u, ())) := rfl
theorem pr14 : fm_M_predefinedRun N w (I 14) = bnd (fm_M_nameRun N w (I 14)) (fun u _ => some (u, ())) := rfl
theorem pr15 : fm_M_predefinedRun N w (I 15) = bnd (fm_M_nameRun N w (I 15)) (fun u _ => some (u, ())) := rfl
theorem nam12y : hm_Ma_naming N u p (I 12) = bnd (hm_Fr_below N u p 1) (fun u3 r3 => bnd (hm_Te_tag N u3 r3) (fun u5 r5 => br (decide (r5 = 1)) (bnd (hm_Wl_named N u5 (r3.toInt32)) (fun u7 r7 => bnd (hm_Ma_processAt N u7 p 0) (fun u9 r9 => br (decide (r9 = none)) (hb_Ma_naming_147 N () u9 p) (br (decide (r7 = none)) (bo r9 (fun j10 => br (decide ((u9.1 (pq j10 12)) = (-1))) (br (decide ((u9.1 (pq j10 9)) = 3)) (hb_Ma_naming_147 N () u9 p) (lt (upI u9 (pq j10 12) (r3.toInt32)) (fun w15 => bnd (hm_Ma_atom N w15 0) (fun u16 r16 => bnd (hm_Ma_answer N u16 p 2 r16) (fun u17 r17 => some (u17, ())))))) (hb_Ma_naming_147 N () u9 p))) (hb_Ma_naming_147 N () u9 p))))) (bnd (hm_Ma_wrong N u5 p 11) (fun u27 r27 => some (u27, ()))))) := rfl
theorem nam13y : hm_Ma_naming N u p (I 13) = bnd (hm_Fr_below N u p 0) (fun u3 r3 => bnd (hm_Te_tag N u3 r3) (fun u5 r5 => br (decide (r5 = 1)) (bnd (hm_Wl_named N u5 (r3.toInt32)) (fun u7 r7 => br (decide (r7 = none)) (bnd (hm_Ma_wrong N u7 p 11) (fun u22 r22 => some (u22, ()))) (bo r7 (fun j18 => lt (upI u7 (pq j18 12) (-1)) (fun w19 => bnd (hm_Ma_atom N w19 0) (fun u20 r20 => bnd (hm_Ma_answer N u20 p 1 r20) (fun u21 r21 => some (u21, ())))))))) (bnd (hm_Ma_wrong N u5 p 11) (fun u27 r27 => some (u27, ()))))) := rfl
theorem nam14y : hm_Ma_naming N u p (I 14) = bnd (hm_Fr_below N u p 0) (fun u3 r3 => bnd (hm_Te_tag N u3 r3) (fun u5 r5 => br (decide (r5 = 1)) (bnd (hm_Wl_named N u5 (r3.toInt32)) (fun u7 r7 => br (decide (r7 = none)) (bnd (hm_Ma_atom N u7 3) (fun u26 r26 => hb_Ma_naming_74 N () u26 p (1) (r26))) (bo r7 (fun j23 => bnd (hm_Te_make N u7 4 (Int32.ofNat j23)) (fun u25 r25 => hb_Ma_naming_74 N () u25 p (1) (r25)))))) (bnd (hm_Ma_wrong N u5 p 11) (fun u27 r27 => some (u27, ()))))) := rfl
def nmR (N : Nat) (u : MS) (K : MS → Int64 → Int32 → Int32 → Option (MS × Unit)) : Option (MS × Unit) := bnd (fm_M_take N u) (fun u14 r14 => bnd (fm_M_sortOf N u14 r14) (fun u15 r15 => br (decide (r15 = 1)) (bnd (fm_M_valueOf N u15 r14) (fun u16 r16 => bnd (fm_M_namedBy N u16 r16) (fun u17 r17 => bnd (fm_M_sortOf N u17 r14) (fun u13 r13 => br (decide (r13 = 1)) (K u13 r14 r17 1) (K u13 r14 r17 0))))) (bnd (fm_M_sortOf N u15 r14) (fun u13 r13 => br (decide (r13 = 1)) (K u13 r14 (-1) 1) (K u13 r14 (-1) 0)))))
theorem nar13 : fm_M_nameRun N w (I 13) = bnd (fm_M_take N w) (fun u18 r18 => nmR N u18 (fun u v4 v6 t0 => fb_M_nameRun_59 N () u (I 13) r18 v4 v6 t0)) := rfl
theorem nar14 : fm_M_nameRun N w (I 14) = nmR N w (fun u v4 v6 t0 => fb_M_nameRun_59 N () u (I 14) 0 v4 v6 t0) := rfl
theorem nar15 : fm_M_nameRun N w (I 15) = nmR N w (fun u v4 v6 t0 => fb_M_nameRun_59 N () u (I 15) 0 v4 v6 t0) := rfl
theorem n59_0 {k : Int} (hk : k = 13 ∨ k = 14 ∨ k = 15) {v2 v4 : Int64} {v6 : Int32} : fb_M_nameRun_59 N () w (I k) v2 v4 v6 0 = bnd (fr_M_error N w 11) (fun u9 _ => some (u9, ())) := by
  rcases hk with rfl | rfl | rfl <;> rfl
theorem n59_15 {v2 v4 : Int64} {v6 : Int32} : fb_M_nameRun_59 N () w (I 15) v2 v4 v6 1 = br (decide (v6 = (-1))) (bnd (fm_M_term N w 1 3) (fun u8 r8 => bnd (fm_M_put N u8 r8) (fun u5 _ => some (u5, ())))) (bnd (fm_M_term N w 4 v6) (fun u7 r7 => bnd (fm_M_put N u7 r7) (fun u5 _ => some (u5, ())))) := rfl
theorem n59_14 {v2 v4 : Int64} {v6 : Int32} : fb_M_nameRun_59 N () w (I 14) v2 v4 v6 1 = br (decide (v6 = (-1))) (bnd (fr_M_error N w 11) (fun u9 _ => some (u9, ()))) (fb_M_nameRun_227 N () w 113 v6 (-1)) := rfl
theorem n59_13 {v2 v4 : Int64} {v6 : Int32} : fb_M_nameRun_59 N () w (I 13) v2 v4 v6 1 = br (decide (v6 = (-1))) (bnd (fm_M_sortOf N w v2) (fun u10 r10 => br (decide (r10 = 4)) (bnd (fm_M_valueOf N u10 v2) (fun u11 r11 => ck (inb r11 (ln 109)) (br (decide ((u11.2.2.1 109 r11.toNatClampNeg) = 3)) (bnd (fr_M_error N u11 11) (fun u9 _ => some (u9, ()))) (bnd (fm_M_valueOf N u11 v2) (fun u12 r12 => ck (inb r12 (ln 113)) (br (decide ((u12.2.2.1 113 r12.toNatClampNeg) = (-1))) (bnd (fm_M_valueOf N u12 v2) (fun u6 r6 => bnd (fm_M_valueOf N u6 v4) (fun u4 r4 => fb_M_nameRun_227 N () u4 113 r6 r4))) (bnd (fr_M_error N u12 11) (fun u9 _ => some (u9, ()))))))))) (bnd (fr_M_error N u10 11) (fun u9 _ => some (u9, ()))))) (bnd (fr_M_error N w 11) (fun u9 _ => some (u9, ()))) := rfl
end
section
variable {α β : Type} {b : Int → Nat → Nat → Prop} {Fv Fv' : Int64 → Int64 → Prop} {P P' : Int64 → Prop} {N PR p U B W Y l j a n : Nat} {m w w1 : MS} {nb : Nat → Nat} {Hs Os : Nat → List Nat} {y : Option (Nat × Nat × Nat)} {Q : MS → α → MS → β → Prop} {K1 : MS → Option (MS × α)} {K2 : MS → Option (MS × β)}
theorem nm_ans {w3 : MS} {q c : Nat} {z : Int} (hp1 : p < 24) (hq : q < 24) (ru : RUs m w p j nb Hs Os y a n) (hW : W + c ≤ 46000) (hc : 0 < c) (hc2 : c < 100) (hl : F m (pq p 45) = ((l : Nat) : Int)) (hl2 : W + c ≤ l ∧ l ≤ 1000000) (hw26 : F m (pq p 26) = ((W + c : Nat) : Int)) (pd : PLs b p (wi m (pq p 26) ((W : Nat) : Int)) w3 U B W Y) (g3 : FGw p j w w3) (h98 : A w3 98 (60 * p + j) = ((n + 1 : Nat) : Int)) (cr : ∃ f, CRs (A m 23) (ROs w) (w.2.2.2 34) f y (a + 2) (n + 1) (Hs j) (Os j))
    (cN : ∀ m3 w3, PLs b p m3 w3 U B (W + 1) Y → RUs m3 w3 p j nb Hs Os y (a + 2) (n + 1) → FGm p (wi m (pq q 12) z) m3 → FGw p j (wa w 113 q z) w3 → PP Q (K1 m3) (K2 w3)) : PP Q (bnd (hm_Ma_answer N (wi m (pq q 12) z) p (I ((c : Nat) : Int)) (mk 1 0)) (fun u _ => bnd (hb_Ma_predefined_146 N () u p) (fun u _ => K1 u))) (bnd (fm_M_put N (wa w3 113 q z) (mk 1 0)) (fun u _ => K2 u)) := by
  obtain ⟨-, ⟨r2, -⟩, -⟩ := id ru
  have cb2 : a + 2 + 1 < 24000 := by
    obtain ⟨f9, cr9⟩ := cr
    exact (CR_b cr9).1
  have e26 : F (wi m (pq q 12) z) (pq p 26) = ((W + c : Nat) : Int) := by
    rw [← hw26]
    exact congrArg Int32.toInt (nm_m (by omega) (by omega))
  have e45 : F (wi m (pq q 12) z) (pq p 45) = ((l : Nat) : Int) := by
    rw [← hl]
    exact congrArg Int32.toInt (nm_m (by omega) (by omega))
  have pd2 := PLs_nm (q := q) (z := z) pd
  rw [wi_cm (pq_ne2 (by omega) (by omega) (by omega))] at pd2
  unfold hm_Ma_answer hb_Ma_answer_0
  rw [drop_e (W := W + c) (k := c) e26 rfl (by omega), bnd_so, Nat.add_sub_cancel]
  simp only [bb_e, bnd_so]
  have cr2 : ∃ f, CRs (A (wi m (pq q 12) z) 23) (ROs (wa w 113 q z)) ((wa w 113 q z).2.2.2 34) f y (a + 2) (n + 1) (Hs j) (Os j) := by
    rw [ROs_eq (w := w) (fun K h => wa_21 (by unfold PRr at h; omega))]
    exact cr
  exact pre_pp (l := l) hp1 (RUs_nm (q := q) (z := z) ru) (by omega) ⟨by omega, hl2.2⟩ (lit_b (b := b) (v := 1) (Or.inr (Or.inl rfl)) (z := 0) (fun h => by omega) ⟨by omega, by omega⟩) FGm.drop (FGw_swA g3) pd2 (by rw [wi_ne (pq_inj (by omega))]; exact e45) (by rw [wa_rne (by omega)]; exact h98) (by rw [wi_ne (pq_n (by omega)), wi_ne (pq_n (by omega))]; exact r2) (by omega) cr2 cN
theorem op_named {d : Int} (hd : d = 13 ∨ d = 14) (hp1 : p < 24) (nd : NDs PR m w) (ru : RUs m w p j nb Hs Os y a n) (hW : W + 1 ≤ 46000) (hl : F m (pq p 45) = ((l : Nat) : Int)) (hl2 : W + 1 ≤ l ∧ l ≤ 1000000) (pl : PLs b p m w1 U B (W + 1) Y) (g1 : FGw p j w w1) (h98 : A w1 98 (60 * p + j) = ((n + 1 : Nat) : Int)) (cr : ∃ f, CRs (A m 23) (ROs w) (w.2.2.2 34) f y (a + 2) (n + 1) (Hs j) (Os j))
    (c : ∀ m3 w3, PLs b p m3 w3 U B (W + 1) Y → RUs m3 w3 p j nb Hs Os y (a + 2) (n + 1) → FGm p m m3 → FGw p j w w3 → PP Q (K1 m3) (K2 w3))
    (cN : ∀ q m3 w3, q < PR → F m (pq q 9) ≠ 3 → PLs b p m3 w3 U B (W + 1) Y → RUs m3 w3 p j nb Hs Os y (a + 2) (n + 1) → FGm p (wi m (pq q 12) (-1)) m3 → FGw p j (wa w 113 q (-1)) w3 → PP Q (K1 m3) (K2 w3))
    (kX : ∀ w3, PLs b p (wi m (pq p 26) ((W : Nat) : Int)) w3 U B W Y → FGw p j w w3 → (w3.2.2.2 88 = w1.2.2.2 88 ∧ w3.1 140 = w1.1 140) → PP Q (K1 (tld m 1 (-1) (mk 1 11))) (bnd (fr_M_error N w3 11) (fun u _ => K2 u))) : PP Q (bnd (hm_Ma_predefined N m p (I d)) (fun u _ => K1 u)) (bnd (fm_M_predefinedRun N w1 (I (d + 1))) (fun u _ => K2 u)) := by
  obtain ⟨⟨fa, -⟩, ⟨r2, -⟩, -, -, -, ⟨-, r9, -⟩, r11, -, -⟩ := id ru
  have p24 := nd.1.2.2
  have cb2 : a + 2 + 1 < 24000 := by
    obtain ⟨f9, cr9⟩ := cr
    exact (CR_b cr9).1
  have x33 : F w1 133 = ((p : Nat) : Int) := by rw [FR.F g1.1 (by simp)]; exact r11
  have rt := pl.2.2.1.2.2 W (by omega)
  have be : hm_Fr_below N m p 0 = some (m, m.2.2.2 (pq p 35) W) := by
    have := below_e (N := N) (x := 0) (k := 0) (W := W + 1) (l := l) pl.2.2.1.1 hl hl2.1 hl2.2 rfl (by omega)
    rw [show W + 1 - 1 - 0 = W by omega] at this
    exact this
  have pd := PLs_drop (k := 1) (W := W) pl (by omega)
  have g3 : FGw p j w (wa w1 92 p ((W : Nat) : Int)) := FGw.tr g1 FGw.w92
  have h983 : A (wa w1 92 p ((W : Nat) : Int)) 98 (60 * p + j) = ((n + 1 : Nat) : Int) := by rw [wa_rne (by omega)]; exact h98
  have nd3 : NDs PR m (wa w1 92 p ((W : Nat) : Int)) := NDs_w nd (g3.1.1 118 (by simp)) (g3.1.2.2.1 109 (by simp)) (g3.1.2.2.1 113 (by simp))
  generalize hw3 : wa w1 92 p ((W : Nat) : Int) = w3 at pd g3 h983 nd3
  have bad : PP Q (bnd (hm_Ma_wrong N m p 11) (fun u _ => bnd (hb_Ma_predefined_146 N () u p) (fun u _ => K1 u))) (bnd (fr_M_error N w3 11) (fun u _ => K2 u)) := by
    rw [wrong_e9, bnd_so, pre_tl ⟨by omega, by omega⟩ (by omega), bnd_so]
    exact kX w3 pd g3 ⟨by rw [← hw3]; rfl, by rw [← hw3]; rfl⟩
  have ans : ∀ t2 x2 : Int64, RTb b t2 x2 → PP Q (bnd (hm_Ma_answer N m p 1 t2) (fun u _ => bnd (hb_Ma_predefined_146 N () u p) (fun u _ => K1 u))) (bnd (fm_M_put N w3 x2) (fun u _ => K2 u)) := fun t2 x2 h => by
    unfold hm_Ma_answer hb_Ma_answer_0
    rw [show (1 : Int32) = I 1 from rfl, drop_e (W := W + 1) (k := 1) (x := 1) pl.2.2.1.1 rfl (by omega), bnd_so, Nat.add_sub_cancel]
    simp only [bb_e, bnd_so]
    exact pre_pp (l := l) hp1 ru (by omega) ⟨by omega, hl2.2⟩ h FGm.drop g3 pd (by rw [wi_ne (pq_inj (by omega))]; exact hl) h983 (by rw [wi_ne (pq_n (by omega))]; exact r2) (by omega) cr c
  have tk := take_r (N := N) (W := W) hp1 x33 pl.2.2.1.2.1 (by omega)
  generalize ht : m.2.2.2 (pq p 35) W = t at rt be
  have sx := RTb_so rt
  have dt : decide (I (so t) = 1) = decide (so t = 1) := by rw [lit1q, decE (so_r _).1 (so_r _).2 (by omega) (by omega)]
  rcases hd with rfl | rfl
  · rw [pm13, show (13 : Int) + 1 = 14 from rfl, pr14, nam13y, nar14]
    unfold nmR
    dsimp only
    refine l_bb (r_bb ?_)
    refine rb_bnd (pk_mo tk (fun w4 r e => ?_))
    obtain ⟨rfl, rfl⟩ := e
    rw [hw3, be, bnd_so, e_tag, bnd_so, sortOf_e, bnd_so, sx, dt]
    by_cases e1 : so t = 1
    · have xt := RTb_n rt (by unfold isH; omega)
      rw [decide_eq_true e1, br_tq, br_tq, valueOf_e, bnd_so, xt, valI]
      refine l_bb (r_bb (pp_bb (pp_mo (named_pn (N := N) (v := I (va t)) nd3) (fun m4 o w4 r h => ?_))))
      obtain ⟨⟨rfl, rfl⟩, ⟨rfl, rfl⟩ | ⟨q, hq, rfl, rfl, qa, -⟩⟩ := h
      · rw [show decide ((none : Option Nat) = none) = true from rfl, br_tq, sortOf_e, bnd_so, dt, decide_eq_true e1, br_tq, n59_14, show decide (I (-1) = -1) = true from rfl, br_tq]
        simp only [bb_e, bnd_so]
        exact bad
      · rw [show decide ((some q : Option Nat) = none) = false from rfl, br_fq, sortOf_e, bnd_so, dt, decide_eq_true e1, br_tq, n59_14, show decide (I ((q : Nat) : Int) = -1) = false from by rw [show (-1 : Int32) = I (-1) from rfl, decE (by omega) (by omega) (by omega) (by omega)]; exact decide_eq_false (by omega), br_fq]
        unfold fb_M_nameRun_227 fb_M_nameRun_236
        refine rb_ck (fun _ => rb_ck (fun _ => ?_))
        rw [tnI (n := q) rfl (by omega), show (-1 : Int32) = I (-1) from rfl, wa_e, lt_e, truth1, bnd_so]
        show PP Q (bnd (lt (upI m4 (pq q 12) (I (-1))) (fun w19 => bnd (hm_Ma_atom N w19 0) (fun u20 r20 => bnd (hm_Ma_answer N u20 p 1 r20) (fun u21 r21 => some (u21, ()))))) _) _
        rw [wi_e, lt_e, show hm_Ma_atom N (wi m4 (pq q 12) (-1)) 0 = some (wi m4 (pq q 12) (-1), mk 1 0) from rfl, bnd_so]
        simp only [bb_e, bnd_so]
        exact nm_ans (c := 1) hp1 (by omega) ru (by omega) (by omega) (by omega) hl hl2 pl.2.2.1.1 pd g3 h983 cr (fun m3 w3 => cN q m3 w3 hq qa)
    · rw [decide_eq_false e1, br_fq, br_fq, sortOf_e, bnd_so, sx, dt, decide_eq_false e1, br_fq, n59_0 (Or.inr (Or.inl rfl))]
      simp only [bb_e, bnd_so]
      exact bad
  · rw [pm14, show (14 : Int) + 1 = 15 from rfl, pr15, nam14y, nar15]
    unfold nmR
    dsimp only
    refine l_bb (r_bb ?_)
    refine rb_bnd (pk_mo tk (fun w4 r e => ?_))
    obtain ⟨rfl, rfl⟩ := e
    rw [hw3, be, bnd_so, e_tag, bnd_so, sortOf_e, bnd_so, sx, dt]
    by_cases e1 : so t = 1
    · have xt := RTb_n rt (by unfold isH; omega)
      rw [decide_eq_true e1, br_tq, br_tq, valueOf_e, bnd_so, xt, valI]
      refine l_bb (r_bb (pp_bb (pp_mo (named_pn (N := N) (v := I (va t)) nd3) (fun m4 o w4 r h => ?_))))
      obtain ⟨⟨rfl, rfl⟩, ⟨rfl, rfl⟩ | ⟨q, hq, rfl, rfl, qa, -⟩⟩ := h
      · rw [show decide ((none : Option Nat) = none) = true from rfl, br_tq, sortOf_e, bnd_so, dt, decide_eq_true e1, br_tq, n59_15, show decide (I (-1) = -1) = true from rfl, br_tq, show hm_Ma_atom N m4 3 = some (m4, mk 1 3) from rfl, bnd_so, show (1 : Int32) = I 1 from rfl, show (3 : Int32) = I 3 from rfl, term_e, bnd_so]
        unfold hb_Ma_naming_74
        simp only [bb_e, bnd_so]
        exact ans _ _ (lit_b (v := 1) (Or.inr (Or.inl rfl)) (fun h => by omega) ⟨by omega, by omega⟩)
      · rw [show decide ((some q : Option Nat) = none) = false from rfl, br_fq, sortOf_e, bnd_so, dt, decide_eq_true e1, br_tq, n59_15, show decide (I ((q : Nat) : Int) = -1) = false from by rw [show (-1 : Int32) = I (-1) from rfl, decE (by omega) (by omega) (by omega) (by omega)]; exact decide_eq_false (by omega), br_fq, show (4 : Int32) = I 4 from rfl, term_e, bnd_so]
        show PP Q (bnd (bnd (hm_Te_make N m4 (I 4) (Int32.ofNat q)) (fun u25 r25 => hb_Ma_naming_74 N () u25 p 1 r25)) _) _
        rw [oI, e_make, bnd_so]
        unfold hb_Ma_naming_74
        simp only [bb_e, bnd_so]
        exact ans _ _ (RTb_lit (nh_mk (by omega)) (fun c => by rw [so_mk (by omega) (by omega)] at c; omega))
    · rw [decide_eq_false e1, br_fq, br_fq, sortOf_e, bnd_so, sx, dt, decide_eq_false e1, br_fq, n59_0 (Or.inr (Or.inr rfl))]
      simp only [bb_e, bnd_so]
      exact bad
theorem op_name2 (hp1 : p < 24) (nd : NDs PR m w) (dwc : DWc Fv P PR m) (hP4 : so (m.2.2.2 (pq p 35) (W + 1)) = 4 → 0 ≤ va (m.2.2.2 (pq p 35) (W + 1)) ∧ va (m.2.2.2 (pq p 35) (W + 1)) < ((PR : Nat) : Int)) (ru : RUs m w p j nb Hs Os y a n) (hW : W + 2 ≤ 46000) (hl : F m (pq p 45) = ((l : Nat) : Int)) (hl2 : W + 2 ≤ l ∧ l ≤ 1000000) (pl : PLs b p m w1 U B (W + 2) Y) (g1 : FGw p j w w1) (h98 : A w1 98 (60 * p + j) = ((n + 1 : Nat) : Int)) (cr : ∃ f, CRs (A m 23) (ROs w) (w.2.2.2 34) f y (a + 2) (n + 1) (Hs j) (Os j))
    (cN : ∀ q z m3 w3, q < PR → F m (pq q 9) ≠ 3 → RG z → PLs b p m3 w3 U B (W + 1) Y → RUs m3 w3 p j nb Hs Os y (a + 2) (n + 1) → FGm p (wi m (pq q 12) z) m3 → FGw p j (wa w 113 q z) w3 → PP Q (K1 m3) (K2 w3))
    (kX : ∀ w3, PLs b p (wi m (pq p 26) ((W : Nat) : Int)) w3 U B W Y → FGw p j w w3 → (w3.2.2.2 88 = w1.2.2.2 88 ∧ w3.1 140 = w1.1 140) → PP Q (K1 (tld m 1 (-1) (mk 1 11))) (bnd (fr_M_error N w3 11) (fun u _ => K2 u))) : PP Q (bnd (hm_Ma_predefined N m p (I 12)) (fun u _ => K1 u)) (bnd (fm_M_predefinedRun N w1 (I 13)) (fun u _ => K2 u)) := by
  obtain ⟨⟨fa, -⟩, ⟨r2, -⟩, -, -, -, ⟨-, r9, -⟩, r11, -, -⟩ := id ru
  have p24 := nd.1.2.2
  have x33 : F w1 133 = ((p : Nat) : Int) := by rw [FR.F g1.1 (by simp)]; exact r11
  have rt0 := pl.2.2.1.2.2 (W + 1) (by omega)
  have rt := pl.2.2.1.2.2 W (by omega)
  have be0 : hm_Fr_below N m p 0 = some (m, m.2.2.2 (pq p 35) (W + 1)) := by
    have := below_e (N := N) (x := 0) (k := 0) (W := W + 2) (l := l) pl.2.2.1.1 hl hl2.1 hl2.2 rfl (by omega)
    rw [show W + 2 - 1 - 0 = W + 1 by omega] at this
    exact this
  have be : hm_Fr_below N m p 1 = some (m, m.2.2.2 (pq p 35) W) := by
    have := below_e (N := N) (x := 1) (k := 1) (W := W + 2) (l := l) pl.2.2.1.1 hl hl2.1 hl2.2 rfl (by omega)
    rw [show W + 2 - 1 - 1 = W by omega] at this
    exact this
  have pd0 := PLs_drop (k := 2) (W := W) pl (by omega)
  have g3 : FGw p j w (wa (wa w1 92 p ((W + 1 : Nat) : Int)) 92 p ((W : Nat) : Int)) := FGw.tr (FGw.tr g1 FGw.w92) FGw.w92
  have h983 : A (wa (wa w1 92 p ((W + 1 : Nat) : Int)) 92 p ((W : Nat) : Int)) 98 (60 * p + j) = ((n + 1 : Nat) : Int) := by rw [wa_rne (by omega), wa_rne (by omega)]; exact h98
  have nd3 : NDs PR m (wa (wa w1 92 p ((W + 1 : Nat) : Int)) 92 p ((W : Nat) : Int)) := NDs_w nd (g3.1.1 118 (by simp)) (g3.1.2.2.1 109 (by simp)) (g3.1.2.2.1 113 (by simp))
  have pd : PLs b p (wi m (pq p 26) ((W : Nat) : Int)) (wa (wa w1 92 p ((W + 1 : Nat) : Int)) 92 p ((W : Nat) : Int)) U B W Y := PLs_cg pd0 (fun _ _ => rfl) (fun _ _ => rfl) (fun _ _ => rfl) (fun _ _ => rfl) (fun _ _ => rfl) (fun k hk => by
    by_cases c : k = 92
    · subst c
      rw [wa_s1, wa_s1]
    · rw [wa_at (by omega), wa_at (by omega), wa_at (by omega)]) (fun _ _ => rfl) (fun _ _ => rfl) (fun _ _ => rfl) (fun _ _ => rfl)
  have y33 : F (wa w1 92 p ((W + 1 : Nat) : Int)) 133 = ((p : Nat) : Int) := x33
  have y92 : A (wa w1 92 p ((W + 1 : Nat) : Int)) 92 p = ((W + 1 : Nat) : Int) := wa_sm (by omega) (by omega)
  have tk0 := take_r (N := N) (W := W + 1) hp1 x33 pl.2.2.1.2.1 (by omega)
  have tk := take_r (N := N) (W := W) hp1 y33 y92 (by omega)
  have j91 : (wa w1 92 p ((W + 1 : Nat) : Int)).2.2.2 91 (46000 * p + W) = w1.2.2.2 91 (46000 * p + W) := rfl
  generalize hw3 : wa (wa w1 92 p ((W + 1 : Nat) : Int)) 92 p ((W : Nat) : Int) = w3 at pd g3 h983 nd3 tk
  have bad : PP Q (bnd (hm_Ma_wrong N m p 11) (fun u _ => bnd (hb_Ma_predefined_146 N () u p) (fun u _ => K1 u))) (bnd (fr_M_error N w3 11) (fun u _ => K2 u)) := by
    rw [wrong_e9, bnd_so, pre_tl ⟨by omega, by omega⟩ (by omega), bnd_so]
    exact kX w3 pd g3 ⟨by rw [← hw3]; rfl, by rw [← hw3]; rfl⟩
  generalize ht : m.2.2.2 (pq p 35) W = t at rt be
  generalize hs : m.2.2.2 (pq p 35) (W + 1) = s at rt0 be0 hP4
  have sx := RTb_so rt
  have sx0 := RTb_so rt0
  have dt : decide (I (so t) = 1) = decide (so t = 1) := by rw [lit1q, decE (so_r _).1 (so_r _).2 (by omega) (by omega)]
  have ds : decide (I (so s) = 4) = decide (so s = 4) := by rw [show (4 : Int32) = I 4 from rfl, decE (so_r _).1 (so_r _).2 (by omega) (by omega)]
  have n147 : hb_Ma_naming_147 N () m p = bnd (hm_Ma_wrong N m p 11) (fun u1 r1 => some (u1, ())) := rfl
  rw [pm12, pr13, nam12y, nar13]
  unfold nmR
  dsimp only
  refine l_bb (r_bb ?_)
  refine rb_bnd (pk_mo tk0 (fun w4 r e => ?_))
  obtain ⟨rfl, rfl⟩ := e
  generalize hx0 : w1.2.2.2 91 (46000 * p + (W + 1)) = x0 at rt0 sx0
  refine rb_bnd (pk_mo tk (fun w4 r e => ?_))
  obtain ⟨rfl, rfl⟩ := e
  rw [j91, be, bnd_so, e_tag, bnd_so, sortOf_e, bnd_so, sx, dt]
  by_cases e1 : so t = 1
  · have xt := RTb_n rt (by unfold isH; omega)
    rw [decide_eq_true e1, br_tq, br_tq, valueOf_e, bnd_so, xt, valI]
    refine l_bb (r_bb (pp_bb (pp_mo (named_pn (N := N) (v := I (va t)) nd3) (fun m4 o w4 r h => ?_))))
    have rest : ∀ r : Int32, bnd (fm_M_sortOf N w4 t) (fun u13 r13 => br (decide (r13 = 1)) (fb_M_nameRun_59 N () u13 (I 13) x0 t r 1) (fb_M_nameRun_59 N () u13 (I 13) x0 t r 0)) = fb_M_nameRun_59 N () w4 (I 13) x0 t r 1 := fun r => by
      rw [sortOf_e, bnd_so, dt, decide_eq_true e1, br_tq]
    rw [rest, n59_13]
    have pa : hm_Ma_processAt N m p 0 = bnd (hm_Fr_below N m p 0) (fun u2 r2 => bnd (hm_Te_tag N u2 r2) (fun u4 r4 => br (decide (r4 = 4)) (bnd (hm_Wl_find N u4 (r2.toInt32)) (fun u6 r6 => some (u6, r6))) (some (u4, none)))) := rfl
    obtain ⟨⟨rfl, rfl⟩, h⟩ := h
    rw [pa, be0, bnd_so, e_tag, bnd_so, ds]
    by_cases e4 : so s = 4
    · have x0s := RTb_n rt0 (by unfold isH; omega)
      obtain ⟨v0, v1⟩ := hP4 e4
      obtain ⟨q, hq⟩ : ∃ q : Nat, va s = ((q : Nat) : Int) := ⟨(va s).toNat, by omega⟩
      rw [decide_eq_true e4, br_tq, valI, hq, find_e (q := q) dwc (by omega), bnd_so, bnd_so, show decide ((some q : Option Nat) = none) = false from rfl, br_fq]
      rcases h with ⟨rfl, rfl⟩ | ⟨q2, hq2, rfl, rfl, qa, -⟩
      · rw [show decide ((none : Option Nat) = none) = true from rfl, br_tq, show decide (I (-1) = -1) = true from rfl, br_tq, sortOf_e, bnd_so, sx0, ds, decide_eq_true e4, br_tq, valueOf_e, bnd_so, x0s, hq, tnI (n := q) rfl (by omega)]
        refine rb_ck (fun _ => ?_)
        show PP Q (bnd (br (decide ((m4.1 (pq q 12)) = (-1))) (br (decide ((m4.1 (pq q 9)) = 3)) (hb_Ma_naming_147 N () m4 p) (lt (upI m4 (pq q 12) (I (va t))) (fun w15 => bnd (hm_Ma_atom N w15 0) (fun u16 r16 => bnd (hm_Ma_answer N u16 p 2 r16) (fun u17 r17 => some (u17, ())))))) (hb_Ma_naming_147 N () m4 p)) _) _
        have rr9 := F_r m4 (pq q 9)
        have rw9 := A_r w4 109 q
        rw [I_F (w := m4) (k := pq q 9), I_A (w := w4) (k := 109) (i := q), show (3 : Int32) = I 3 from rfl, decE rr9.1 rr9.2 (by omega) (by omega), decE rw9.1 rw9.2 (by omega) (by omega), n147]
        rcases nd3.2.2 q (by omega) with ⟨x1, x2, x3⟩ | ⟨x1, x2⟩
        · rw [decide_eq_false x1, decide_eq_false x2, br_fq, br_fq, valueOf_e, bnd_so, x3, hq, tnI (n := q) rfl (by omega)]
          refine rb_ck (fun _ => ?_)
          by_cases e5 : w4.2.2.1 113 q = -1
          · rw [decide_eq_true e5, br_tq, br_tq, valueOf_e, bnd_so, valueOf_e, bnd_so, hq]
            unfold fb_M_nameRun_227 fb_M_nameRun_236
            refine rb_ck (fun _ => rb_ck (fun _ => ?_))
            rw [tnI (n := q) rfl (by omega), wa_e, lt_e, lt_e, truth1, bnd_so, wi_e, show hm_Ma_atom N (wi m4 (pq q 12) (va t)) 0 = some (wi m4 (pq q 12) (va t), mk 1 0) from rfl, bnd_so]
            simp only [bb_e, bnd_so]
            exact nm_ans (c := 2) hp1 (by omega) ru (by omega) (by omega) (by omega) hl hl2 pl.2.2.1.1 pd g3 h983 cr (fun m3 w3 => cN q (va t) m3 w3 (by omega) x1 (va_r t))
          · rw [decide_eq_false e5, br_fq, br_fq]
            simp only [bb_e, bnd_so]
            exact bad
        · rw [decide_eq_true x1, decide_eq_true x2, br_tq, br_tq]
          refine lb_br (fun _ => ?_) (fun _ => ?_)
          · simp only [bb_e, bnd_so]
            exact bad
          · simp only [bb_e, bnd_so]
            exact bad
      · rw [show decide ((some q2 : Option Nat) = none) = false from rfl, br_fq, show decide (I ((q2 : Nat) : Int) = -1) = false from by rw [show (-1 : Int32) = I (-1) from rfl, decE (by omega) (by omega) (by omega) (by omega)]; exact decide_eq_false (by omega), br_fq, n147]
        simp only [bb_e, bnd_so]
        exact bad
    · rw [decide_eq_false e4, br_fq, bnd_so, show decide ((none : Option Nat) = none) = true from rfl, br_tq, n147, sortOf_e, bnd_so, sx0, ds, decide_eq_false e4, br_fq]
      simp only [bb_e, bnd_so]
      refine rb_br (fun _ => ?_) (fun _ => ?_)
      · simp only [bb_e, bnd_so]
        exact bad
      · simp only [bb_e, bnd_so]
        exact bad
  · rw [decide_eq_false e1, br_fq, br_fq, sortOf_e, bnd_so, sx, dt, decide_eq_false e1, br_fq, n59_0 (Or.inl rfl)]
    simp only [bb_e, bnd_so]
    exact bad
end
end
