set_option maxRecDepth 100000
def Khc (u w : MS) : Prop := (∀ k, k ≠ 81 → w.1 k = u.1 k) ∧ ∀ k, k ≠ 5 → w.2.2.1 k = u.2.2.1 k
def KhE {α : Type} (u : MS) (o : Option (MS × α)) : Prop := ∀ w r, o = some (w, r) → Khc u w
section
variable {α β : Type} {u0 u w : MS} {k : Nat}
theorem Kh_none : KhE u0 (none : Option (MS × α)) := fun _ _ e => by cases e
theorem Kh_some {r : α} (h : Khc u0 w) : KhE u0 (some (w, r)) := fun _ _ e => by injection e with e; injection e with e1 _; exact e1 ▸ h
theorem Kh_br {b : Bool} {p q : Option (MS × α)} (h1 : KhE u0 p) (h2 : KhE u0 q) : KhE u0 (br b p q) := by cases b <;> assumption
theorem Kh_ck {b : Bool} {p : Option (MS × α)} (h1 : KhE u0 p) : KhE u0 (ck b p) := by
  cases b
  · exact Kh_none
  · exact h1
theorem Kh_bo {o : Option β} {f : β → Option (MS × α)} (h : ∀ j, KhE u0 (f j)) : KhE u0 (bo o f) := by
  cases o with
  | none => exact Kh_none
  | some j => exact h j
theorem Kh_bnd {o : Option (MS × β)} {f : MS → β → Option (MS × α)} (h1 : KhE u0 o) (h2 : ∀ w r, Khc u0 w → KhE u0 (f w r)) : KhE u0 (bnd o f) := by
  cases o with
  | none => exact Kh_none
  | some x => exact h2 x.1 x.2 (h1 x.1 x.2 rfl)
theorem Kh_T {o : Option (MS × (β ⊕ Nat))} {f : MS → β → Option (MS × (α ⊕ Nat))} (h1 : KhE u0 o) (h2 : ∀ w r, Khc u0 w → KhE u0 (f w r)) : KhE u0 (bTm o f) := by
  cases o with
  | none => exact Kh_none
  | some x =>
    obtain ⟨x, z⟩ := x
    cases z with
    | inl v => exact h2 x v (h1 x _ rfl)
    | inr k => exact Kh_some (h1 x _ rfl)
theorem Kh_H {o : Option (MS × (β ⊕ Nat))} {f : MS → β → Option (MS × α)} {g : MS → Option (MS × α)} (h1 : KhE u0 o) (h2 : ∀ w r, Khc u0 w → KhE u0 (f w r)) (h3 : ∀ w, Khc u0 w → KhE u0 (g w)) : KhE u0 (bHm o f g) := by
  cases o with
  | none => exact Kh_none
  | some x =>
    obtain ⟨x, z⟩ := x
    cases z with
    | inl v => exact h2 x v (h1 x _ rfl)
    | inr k =>
      show KhE u0 (if k = 3 then g x else none)
      split
      · exact h3 x (h1 x _ rfl)
      · exact Kh_none
theorem Kh_ltm {x : MS} {f : MS → Option (MS × α)} (h1 : Khc u0 x) (h2 : ∀ w, Khc u0 w → KhE u0 (f w)) : KhE u0 (lt x f) := h2 x h1
theorem Kh_ltv {x : β} {f : β → Option (MS × α)} (h2 : ∀ y, KhE u0 (f y)) : KhE u0 (lt x f) := h2 x
theorem Kh_I {v : Int32} (h : Khc u0 u) (hk : k = 81) : Khc u0 (upI u k v) := ⟨fun j hj => (upI_ne (by omega)).trans (h.1 j hj), h.2⟩
theorem Kh_L {v : Int64} (h : Khc u0 u) : Khc u0 (upL u k v) := h
theorem Kh_J {v : Nat → Int64} (h : Khc u0 u) : Khc u0 (upJ u k v) := h
theorem Kh_A {v : Nat → Int32} (h : Khc u0 u) (hk : k = 5) : Khc u0 (upA u k v) := ⟨h.1, fun j hj => (upA_no (by omega)).trans (h.2 j hj)⟩
theorem Kh_rf : Khc u u := ⟨fun _ _ => rfl, fun _ _ => rfl⟩
end
section
variable {u0 u : MS} {N : Nat}
theorem yh9_hb_To_append_46 {G : (MS → Int32 → Int32 → Option (MS × Unit))} (h : Khc u0 u) (hG0 : ∀ (u : MS) a0 a1, Khc u0 u → KhE u0 (G u a0 a1)) : KhE u0 (hb_To_append_46 N G u) := by
  unfold hb_To_append_46
  repeat' (first | with_reducible assumption | with_reducible refine Kh_br ?_ ?_ | with_reducible refine Kh_bnd ?_ (fun _ _ _ => ?_) | with_reducible refine Kh_ck ?_ | with_reducible refine Kh_ltm ?_ (fun _ _ => ?_) | with_reducible refine Kh_some ?_ | with_reducible refine Kh_bo (fun _ => ?_) | with_reducible refine Kh_T ?_ (fun _ _ _ => ?_) | with_reducible refine Kh_H ?_ (fun _ _ _ => ?_) (fun _ _ => ?_) | with_reducible exact hG0 _ _ _ (by assumption) | with_reducible refine Kh_ltv (fun _ => ?_) | with_reducible refine Kh_I ?_ (by decide) | with_reducible refine Kh_A ?_ (by decide) | with_reducible refine Kh_J ?_ | with_reducible refine Kh_L ?_)
theorem yh9_hb_To_append_3 {G : (MS → Int32 → Int32 → Option (MS × Unit))} {v1 : Int32} {v2 : Int32} (h : Khc u0 u) (hG0 : ∀ (u : MS) a0 a1, Khc u0 u → KhE u0 (G u a0 a1)) : KhE u0 (hb_To_append_3 N G u v1 v2) := by
  unfold hb_To_append_3
  repeat' (first | with_reducible assumption | with_reducible refine Kh_br ?_ ?_ | with_reducible refine Kh_bnd ?_ (fun _ _ _ => ?_) | with_reducible refine Kh_ck ?_ | with_reducible refine Kh_ltm ?_ (fun _ _ => ?_) | with_reducible refine Kh_some ?_ | with_reducible refine Kh_bo (fun _ => ?_) | with_reducible refine Kh_T ?_ (fun _ _ _ => ?_) | with_reducible refine Kh_H ?_ (fun _ _ _ => ?_) (fun _ _ => ?_) | with_reducible exact yh9_hb_To_append_46 (by assumption) hG0 | with_reducible exact hG0 _ _ _ (by assumption) | with_reducible refine Kh_ltv (fun _ => ?_) | with_reducible refine Kh_I ?_ (by decide) | with_reducible refine Kh_A ?_ (by decide) | with_reducible refine Kh_J ?_ | with_reducible refine Kh_L ?_)
theorem yh9_hb_To_append_0 {G : (MS → Int32 → Int32 → Option (MS × Unit))} {v1 : Int32} (h : Khc u0 u) (hG0 : ∀ (u : MS) a0 a1, Khc u0 u → KhE u0 (G u a0 a1)) : KhE u0 (hb_To_append_0 N G u v1) := by
  unfold hb_To_append_0
  repeat' (first | with_reducible assumption | with_reducible refine Kh_br ?_ ?_ | with_reducible refine Kh_bnd ?_ (fun _ _ _ => ?_) | with_reducible refine Kh_ck ?_ | with_reducible refine Kh_ltm ?_ (fun _ _ => ?_) | with_reducible refine Kh_some ?_ | with_reducible refine Kh_bo (fun _ => ?_) | with_reducible refine Kh_T ?_ (fun _ _ _ => ?_) | with_reducible refine Kh_H ?_ (fun _ _ _ => ?_) (fun _ _ => ?_) | with_reducible exact hG0 _ _ _ (by assumption) | with_reducible refine Kh_ltv (fun _ => ?_) | with_reducible refine Kh_I ?_ (by decide) | with_reducible refine Kh_A ?_ (by decide) | with_reducible refine Kh_J ?_ | with_reducible refine Kh_L ?_)
theorem yh9_hg_To_append  (n : Nat) : (∀ (u : MS) a0 a1, Khc u0 u → KhE u0 ((hg_To_append N n) u a0 a1)) := by
  induction n with
  | zero => exact fun _ _ _ _ => Kh_none
  | succ n ih => exact fun _ _ _ h => yh9_hb_To_append_3 (N := N) h ih
theorem yh9_hm_To_append {v1 : Int32} (h : Khc u0 u)  : KhE u0 (hm_To_append N u v1) := by
  unfold hm_To_append
  exact yh9_hb_To_append_0 h ((yh9_hg_To_append N))
theorem yh9_hb_H_feed_0 {G : Unit} {v1 : Int32} {v2 : Int32} {v3 : Int32} {v4 : Int32} {v5 : Int32} (h : Khc u0 u)  : KhE u0 (hb_H_feed_0 N G u v1 v2 v3 v4 v5) := by
  unfold hb_H_feed_0
  repeat' (first | with_reducible assumption | with_reducible refine Kh_br ?_ ?_ | with_reducible refine Kh_bnd ?_ (fun _ _ _ => ?_) | with_reducible refine Kh_ck ?_ | with_reducible refine Kh_ltm ?_ (fun _ _ => ?_) | with_reducible refine Kh_some ?_ | with_reducible refine Kh_bo (fun _ => ?_) | with_reducible refine Kh_T ?_ (fun _ _ _ => ?_) | with_reducible refine Kh_H ?_ (fun _ _ _ => ?_) (fun _ _ => ?_) | with_reducible exact yh9_hm_To_append (by assumption) | with_reducible refine Kh_ltv (fun _ => ?_) | with_reducible refine Kh_I ?_ (by decide) | with_reducible refine Kh_A ?_ (by decide) | with_reducible refine Kh_J ?_ | with_reducible refine Kh_L ?_)
theorem yh9_hm_H_feed {v1 : Int32} {v2 : Int32} {v3 : Int32} {v4 : Int32} {v5 : Int32} (h : Khc u0 u)  : KhE u0 (hm_H_feed N u v1 v2 v3 v4 v5) := by
  unfold hm_H_feed
  exact yh9_hb_H_feed_0 h
theorem yh9_hb_H_back_15 {G : Unit} (h : Khc u0 u)  : KhE u0 (hb_H_back_15 N G u) := by
  unfold hb_H_back_15
  repeat' (first | with_reducible assumption | with_reducible refine Kh_br ?_ ?_ | with_reducible refine Kh_bnd ?_ (fun _ _ _ => ?_) | with_reducible refine Kh_ck ?_ | with_reducible refine Kh_ltm ?_ (fun _ _ => ?_) | with_reducible refine Kh_some ?_ | with_reducible refine Kh_bo (fun _ => ?_) | with_reducible refine Kh_T ?_ (fun _ _ _ => ?_) | with_reducible refine Kh_H ?_ (fun _ _ _ => ?_) (fun _ _ => ?_) | with_reducible refine Kh_ltv (fun _ => ?_) | with_reducible refine Kh_I ?_ (by decide) | with_reducible refine Kh_A ?_ (by decide) | with_reducible refine Kh_J ?_ | with_reducible refine Kh_L ?_)
theorem yh9_hb_H_back_0 {G : Unit} {v1 : Int32} (h : Khc u0 u)  : KhE u0 (hb_H_back_0 N G u v1) := by
  unfold hb_H_back_0
  repeat' (first | with_reducible assumption | with_reducible refine Kh_br ?_ ?_ | with_reducible refine Kh_bnd ?_ (fun _ _ _ => ?_) | with_reducible refine Kh_ck ?_ | with_reducible refine Kh_ltm ?_ (fun _ _ => ?_) | with_reducible refine Kh_some ?_ | with_reducible refine Kh_bo (fun _ => ?_) | with_reducible refine Kh_T ?_ (fun _ _ _ => ?_) | with_reducible refine Kh_H ?_ (fun _ _ _ => ?_) (fun _ _ => ?_) | with_reducible exact yh9_hb_H_back_15 (by assumption) | with_reducible refine Kh_ltv (fun _ => ?_) | with_reducible refine Kh_I ?_ (by decide) | with_reducible refine Kh_A ?_ (by decide) | with_reducible refine Kh_J ?_ | with_reducible refine Kh_L ?_)
theorem yh9_hm_H_back {v1 : Int32} (h : Khc u0 u)  : KhE u0 (hm_H_back N u v1) := by
  unfold hm_H_back
  exact yh9_hb_H_back_0 h
end
