/-! the class: what the calls that only ask, and the tape, leave as it is -/
set_option maxRecDepth 100000
def Kf1c (u w : MS) : Prop := (∀ k, k ∉ [9, 81, 865, 866, 1964] → w.1 k = u.1 k) ∧ (∀ k, k ∉ [5, 56] → w.2.2.1 k = u.2.2.1 k) ∧ (∀ k, k ≠ 45 → w.2.2.2 k = u.2.2.2 k) ∧ w.2.1 = u.2.1
def Kf1E {α : Type} (u : MS) (o : Option (MS × α)) : Prop := ∀ w r, o = some (w, r) → Kf1c u w
section
variable {α β : Type} {u0 u w : MS} {k : Nat}
theorem Kf1_none : Kf1E u0 (none : Option (MS × α)) := fun _ _ e => by cases e
theorem Kf1_some {r : α} (h : Kf1c u0 w) : Kf1E u0 (some (w, r)) := fun _ _ e => by injection e with e; injection e with e1 _; exact e1 ▸ h
theorem Kf1_br {b : Bool} {p q : Option (MS × α)} (h1 : Kf1E u0 p) (h2 : Kf1E u0 q) : Kf1E u0 (br b p q) := by cases b <;> assumption
theorem Kf1_ck {b : Bool} {p : Option (MS × α)} (h1 : Kf1E u0 p) : Kf1E u0 (ck b p) := by
  cases b
  · exact Kf1_none
  · exact h1
theorem Kf1_bo {o : Option β} {f : β → Option (MS × α)} (h : ∀ j, Kf1E u0 (f j)) : Kf1E u0 (bo o f) := by
  cases o with
  | none => exact Kf1_none
  | some j => exact h j
theorem Kf1_bnd {o : Option (MS × β)} {f : MS → β → Option (MS × α)} (h1 : Kf1E u0 o) (h2 : ∀ w r, Kf1c u0 w → Kf1E u0 (f w r)) : Kf1E u0 (bnd o f) := by
  cases o with
  | none => exact Kf1_none
  | some x => exact h2 x.1 x.2 (h1 x.1 x.2 rfl)
theorem Kf1_T {o : Option (MS × (β ⊕ Nat))} {f : MS → β → Option (MS × (α ⊕ Nat))} (h1 : Kf1E u0 o) (h2 : ∀ w r, Kf1c u0 w → Kf1E u0 (f w r)) : Kf1E u0 (bTm o f) := by
  cases o with
  | none => exact Kf1_none
  | some x =>
    obtain ⟨x, z⟩ := x
    cases z with
    | inl v => exact h2 x v (h1 x _ rfl)
    | inr k => exact Kf1_some (h1 x _ rfl)
theorem Kf1_H {o : Option (MS × (β ⊕ Nat))} {f : MS → β → Option (MS × α)} {g : MS → Option (MS × α)} (h1 : Kf1E u0 o) (h2 : ∀ w r, Kf1c u0 w → Kf1E u0 (f w r)) (h3 : ∀ w, Kf1c u0 w → Kf1E u0 (g w)) : Kf1E u0 (bHm o f g) := by
  cases o with
  | none => exact Kf1_none
  | some x =>
    obtain ⟨x, z⟩ := x
    cases z with
    | inl v => exact h2 x v (h1 x _ rfl)
    | inr k =>
      show Kf1E u0 (if k = 3 then g x else none)
      split
      · exact h3 x (h1 x _ rfl)
      · exact Kf1_none
theorem Kf1_ltm {x : MS} {f : MS → Option (MS × α)} (h1 : Kf1c u0 x) (h2 : ∀ w, Kf1c u0 w → Kf1E u0 (f w)) : Kf1E u0 (lt x f) := h2 x h1
theorem Kf1_ltv {x : β} {f : β → Option (MS × α)} (h2 : ∀ y, Kf1E u0 (f y)) : Kf1E u0 (lt x f) := h2 x
theorem Kf1_I {v : Int32} (h : Kf1c u0 u) (hk : k ∈ [9, 81, 865, 866, 1964]) : Kf1c u0 (upI u k v) := ⟨fun j hj => (upI_ne (fun e => hj (by rw [e]; exact hk))).trans (h.1 j hj), h.2⟩
theorem Kf1_L {v : Int64} (h : False) : Kf1c u0 (upL u k v) := h.elim
theorem Kf1_J {v : Nat → Int64} (h : Kf1c u0 u) : Kf1c u0 (upJ u 45 v) := ⟨h.1, h.2.1, fun j hj => (if_neg hj).trans (h.2.2.1 j hj), h.2.2.2⟩
theorem Kf1_A {v : Nat → Int32} (h : Kf1c u0 u) (hk : k ∈ [5, 56]) : Kf1c u0 (upA u k v) := ⟨h.1, fun j hj => (upA_no (fun e => hj (by rw [e]; exact hk))).trans (h.2.1 j hj), h.2.2⟩
theorem Kf1_rf : Kf1c u u := ⟨fun _ _ => rfl, fun _ _ => rfl, fun _ _ => rfl, rfl⟩
end
section
variable {u0 u : MS} {N : Nat}
theorem yf1_hb_To_append_46 {G : (MS → Int32 → Int32 → Option (MS × Unit))} (h : Kf1c u0 u) (hG0 : ∀ (u : MS) a0 a1, Kf1c u0 u → Kf1E u0 (G u a0 a1)) : Kf1E u0 (hb_To_append_46 N G u) := by
  unfold hb_To_append_46
  repeat' (first | with_reducible assumption | with_reducible refine Kf1_br ?_ ?_ | with_reducible refine Kf1_bnd ?_ (fun _ _ _ => ?_) | with_reducible refine Kf1_ck ?_ | with_reducible refine Kf1_ltm ?_ (fun _ _ => ?_) | with_reducible refine Kf1_some ?_ | with_reducible refine Kf1_bo (fun _ => ?_) | with_reducible refine Kf1_T ?_ (fun _ _ _ => ?_) | with_reducible refine Kf1_H ?_ (fun _ _ _ => ?_) (fun _ _ => ?_) | with_reducible exact hG0 _ _ _ (by assumption) | with_reducible refine Kf1_ltv (fun _ => ?_) | with_reducible refine Kf1_I ?_ (by decide) | with_reducible refine Kf1_A ?_ (by decide) | with_reducible refine Kf1_J ?_ | with_reducible refine Kf1_L ?_)
theorem yf1_hb_To_append_3 {G : (MS → Int32 → Int32 → Option (MS × Unit))} {v1 : Int32} {v2 : Int32} (h : Kf1c u0 u) (hG0 : ∀ (u : MS) a0 a1, Kf1c u0 u → Kf1E u0 (G u a0 a1)) : Kf1E u0 (hb_To_append_3 N G u v1 v2) := by
  unfold hb_To_append_3
  repeat' (first | with_reducible assumption | with_reducible refine Kf1_br ?_ ?_ | with_reducible refine Kf1_bnd ?_ (fun _ _ _ => ?_) | with_reducible refine Kf1_ck ?_ | with_reducible refine Kf1_ltm ?_ (fun _ _ => ?_) | with_reducible refine Kf1_some ?_ | with_reducible refine Kf1_bo (fun _ => ?_) | with_reducible refine Kf1_T ?_ (fun _ _ _ => ?_) | with_reducible refine Kf1_H ?_ (fun _ _ _ => ?_) (fun _ _ => ?_) | with_reducible exact yf1_hb_To_append_46 (by assumption) hG0 | with_reducible exact hG0 _ _ _ (by assumption) | with_reducible refine Kf1_ltv (fun _ => ?_) | with_reducible refine Kf1_I ?_ (by decide) | with_reducible refine Kf1_A ?_ (by decide) | with_reducible refine Kf1_J ?_ | with_reducible refine Kf1_L ?_)
theorem yf1_hb_To_append_0 {G : (MS → Int32 → Int32 → Option (MS × Unit))} {v1 : Int32} (h : Kf1c u0 u) (hG0 : ∀ (u : MS) a0 a1, Kf1c u0 u → Kf1E u0 (G u a0 a1)) : Kf1E u0 (hb_To_append_0 N G u v1) := by
  unfold hb_To_append_0
  repeat' (first | with_reducible assumption | with_reducible refine Kf1_br ?_ ?_ | with_reducible refine Kf1_bnd ?_ (fun _ _ _ => ?_) | with_reducible refine Kf1_ck ?_ | with_reducible refine Kf1_ltm ?_ (fun _ _ => ?_) | with_reducible refine Kf1_some ?_ | with_reducible refine Kf1_bo (fun _ => ?_) | with_reducible refine Kf1_T ?_ (fun _ _ _ => ?_) | with_reducible refine Kf1_H ?_ (fun _ _ _ => ?_) (fun _ _ => ?_) | with_reducible exact hG0 _ _ _ (by assumption) | with_reducible refine Kf1_ltv (fun _ => ?_) | with_reducible refine Kf1_I ?_ (by decide) | with_reducible refine Kf1_A ?_ (by decide) | with_reducible refine Kf1_J ?_ | with_reducible refine Kf1_L ?_)
theorem yf1_hg_To_append  (n : Nat) : (∀ (u : MS) a0 a1, Kf1c u0 u → Kf1E u0 ((hg_To_append N n) u a0 a1)) := by
  induction n with
  | zero => exact fun _ _ _ _ => Kf1_none
  | succ n ih => exact fun _ _ _ h => yf1_hb_To_append_3 (N := N) h ih
theorem yf1_hm_To_append {v1 : Int32} (h : Kf1c u0 u)  : Kf1E u0 (hm_To_append N u v1) := by
  unfold hm_To_append
  exact yf1_hb_To_append_0 h ((yf1_hg_To_append N))
theorem yf1_hb_H_feed_0 {G : Unit} {v1 : Int32} {v2 : Int32} {v3 : Int32} {v4 : Int32} {v5 : Int32} (h : Kf1c u0 u)  : Kf1E u0 (hb_H_feed_0 N G u v1 v2 v3 v4 v5) := by
  unfold hb_H_feed_0
  repeat' (first | with_reducible assumption | with_reducible refine Kf1_br ?_ ?_ | with_reducible refine Kf1_bnd ?_ (fun _ _ _ => ?_) | with_reducible refine Kf1_ck ?_ | with_reducible refine Kf1_ltm ?_ (fun _ _ => ?_) | with_reducible refine Kf1_some ?_ | with_reducible refine Kf1_bo (fun _ => ?_) | with_reducible refine Kf1_T ?_ (fun _ _ _ => ?_) | with_reducible refine Kf1_H ?_ (fun _ _ _ => ?_) (fun _ _ => ?_) | with_reducible exact yf1_hm_To_append (by assumption) | with_reducible refine Kf1_ltv (fun _ => ?_) | with_reducible refine Kf1_I ?_ (by decide) | with_reducible refine Kf1_A ?_ (by decide) | with_reducible refine Kf1_J ?_ | with_reducible refine Kf1_L ?_)
theorem yf1_hm_H_feed {v1 : Int32} {v2 : Int32} {v3 : Int32} {v4 : Int32} {v5 : Int32} (h : Kf1c u0 u)  : Kf1E u0 (hm_H_feed N u v1 v2 v3 v4 v5) := by
  unfold hm_H_feed
  exact yf1_hb_H_feed_0 h
theorem yf1_hb_H_back_15 {G : Unit} (h : Kf1c u0 u)  : Kf1E u0 (hb_H_back_15 N G u) := by
  unfold hb_H_back_15
  repeat' (first | with_reducible assumption | with_reducible refine Kf1_br ?_ ?_ | with_reducible refine Kf1_bnd ?_ (fun _ _ _ => ?_) | with_reducible refine Kf1_ck ?_ | with_reducible refine Kf1_ltm ?_ (fun _ _ => ?_) | with_reducible refine Kf1_some ?_ | with_reducible refine Kf1_bo (fun _ => ?_) | with_reducible refine Kf1_T ?_ (fun _ _ _ => ?_) | with_reducible refine Kf1_H ?_ (fun _ _ _ => ?_) (fun _ _ => ?_) | with_reducible refine Kf1_ltv (fun _ => ?_) | with_reducible refine Kf1_I ?_ (by decide) | with_reducible refine Kf1_A ?_ (by decide) | with_reducible refine Kf1_J ?_ | with_reducible refine Kf1_L ?_)
theorem yf1_hb_H_back_0 {G : Unit} {v1 : Int32} (h : Kf1c u0 u)  : Kf1E u0 (hb_H_back_0 N G u v1) := by
  unfold hb_H_back_0
  repeat' (first | with_reducible assumption | with_reducible refine Kf1_br ?_ ?_ | with_reducible refine Kf1_bnd ?_ (fun _ _ _ => ?_) | with_reducible refine Kf1_ck ?_ | with_reducible refine Kf1_ltm ?_ (fun _ _ => ?_) | with_reducible refine Kf1_some ?_ | with_reducible refine Kf1_bo (fun _ => ?_) | with_reducible refine Kf1_T ?_ (fun _ _ _ => ?_) | with_reducible refine Kf1_H ?_ (fun _ _ _ => ?_) (fun _ _ => ?_) | with_reducible exact yf1_hb_H_back_15 (by assumption) | with_reducible refine Kf1_ltv (fun _ => ?_) | with_reducible refine Kf1_I ?_ (by decide) | with_reducible refine Kf1_A ?_ (by decide) | with_reducible refine Kf1_J ?_ | with_reducible refine Kf1_L ?_)
theorem yf1_hm_H_back {v1 : Int32} (h : Kf1c u0 u)  : Kf1E u0 (hm_H_back N u v1) := by
  unfold hm_H_back
  exact yf1_hb_H_back_0 h
end
