section
set_option maxRecDepth 100000
def Kjc (u w : MS) : Prop := (∀ k, k ∉ [39, 66, 67, 68, 69, 70] → w.1 k = u.1 k) ∧ ∀ k, k < 33 ∨ 65 ≤ k → w.2.2.1 k = u.2.2.1 k
def KjE {α : Type} (u : MS) (o : Option (MS × α)) : Prop := ∀ w r, o = some (w, r) → Kjc u w
section
variable {α β : Type} {u0 u w : MS} {k : Nat}
theorem Kj_none : KjE u0 (none : Option (MS × α)) := fun _ _ e => by cases e
theorem Kj_some {r : α} (h : Kjc u0 w) : KjE u0 (some (w, r)) := fun _ _ e => by injection e with e; injection e with e1 _; exact e1 ▸ h
theorem Kj_br {b : Bool} {p q : Option (MS × α)} (h1 : KjE u0 p) (h2 : KjE u0 q) : KjE u0 (br b p q) := by cases b <;> assumption
theorem Kj_ck {b : Bool} {p : Option (MS × α)} (h1 : KjE u0 p) : KjE u0 (ck b p) := by
  cases b
  · exact Kj_none
  · exact h1
theorem Kj_bo {o : Option β} {f : β → Option (MS × α)} (h : ∀ j, KjE u0 (f j)) : KjE u0 (bo o f) := by
  cases o with
  | none => exact Kj_none
  | some j => exact h j
theorem Kj_bnd {o : Option (MS × β)} {f : MS → β → Option (MS × α)} (h1 : KjE u0 o) (h2 : ∀ w r, Kjc u0 w → KjE u0 (f w r)) : KjE u0 (bnd o f) := by
  cases o with
  | none => exact Kj_none
  | some x => exact h2 x.1 x.2 (h1 x.1 x.2 rfl)
theorem Kj_T {o : Option (MS × (β ⊕ Nat))} {f : MS → β → Option (MS × (α ⊕ Nat))} (h1 : KjE u0 o) (h2 : ∀ w r, Kjc u0 w → KjE u0 (f w r)) : KjE u0 (bTm o f) := by
  cases o with
  | none => exact Kj_none
  | some x =>
    obtain ⟨x, z⟩ := x
    cases z with
    | inl v => exact h2 x v (h1 x _ rfl)
    | inr k => exact Kj_some (h1 x _ rfl)
theorem Kj_H {o : Option (MS × (β ⊕ Nat))} {f : MS → β → Option (MS × α)} {g : MS → Option (MS × α)} (h1 : KjE u0 o) (h2 : ∀ w r, Kjc u0 w → KjE u0 (f w r)) (h3 : ∀ w, Kjc u0 w → KjE u0 (g w)) : KjE u0 (bHm o f g) := by
  cases o with
  | none => exact Kj_none
  | some x =>
    obtain ⟨x, z⟩ := x
    cases z with
    | inl v => exact h2 x v (h1 x _ rfl)
    | inr k =>
      show KjE u0 (if k = 3 then g x else none)
      split
      · exact h3 x (h1 x _ rfl)
      · exact Kj_none
theorem Kj_ltm {x : MS} {f : MS → Option (MS × α)} (h1 : Kjc u0 x) (h2 : ∀ w, Kjc u0 w → KjE u0 (f w)) : KjE u0 (lt x f) := h2 x h1
theorem Kj_ltv {x : β} {f : β → Option (MS × α)} (h2 : ∀ y, KjE u0 (f y)) : KjE u0 (lt x f) := h2 x
theorem Kj_I {v : Int32} (h : Kjc u0 u) (hk : k ∈ [39, 66, 67, 68, 69, 70]) : Kjc u0 (upI u k v) := ⟨fun j hj => (if_neg (fun e => hj (by rw [e]; exact hk))).trans (h.1 j hj), h.2⟩
theorem Kj_L {v : Int64} (h : Kjc u0 u) : Kjc u0 (upL u k v) := h
theorem Kj_J {v : Nat → Int64} (h : Kjc u0 u) : Kjc u0 (upJ u k v) := h
theorem Kj_A {v : Nat → Int32} (h : Kjc u0 u) (hk : 33 ≤ k ∧ k < 65) : Kjc u0 (upA u k v) := ⟨h.1, fun j hj => (if_neg (by omega)).trans (h.2 j hj)⟩
theorem Kj_rf : Kjc u u := ⟨fun _ _ => rfl, fun _ _ => rfl⟩
end
section
variable {u0 u : MS} {N : Nat}
theorem yj_fb_M_pattern_0 {G : Unit} {v1 : Int32} (h : Kjc u0 u)  : KjE u0 (fb_M_pattern_0 N G u v1) := by
  unfold fb_M_pattern_0
  repeat' (first | with_reducible assumption | with_reducible refine Kj_br ?_ ?_ | with_reducible refine Kj_bnd ?_ (fun _ _ _ => ?_) | with_reducible refine Kj_ck ?_ | with_reducible refine Kj_ltm ?_ (fun _ _ => ?_) | with_reducible refine Kj_some ?_ | with_reducible refine Kj_bo (fun _ => ?_) | with_reducible refine Kj_T ?_ (fun _ _ _ => ?_) | with_reducible refine Kj_H ?_ (fun _ _ _ => ?_) (fun _ _ => ?_) | with_reducible refine Kj_ltv (fun _ => ?_) | with_reducible refine Kj_I ?_ (by decide) | with_reducible refine Kj_A ?_ (by decide) | with_reducible refine Kj_J ?_ | with_reducible refine Kj_L ?_)
theorem yj_fm_M_pattern {v1 : Int32} (h : Kjc u0 u)  : KjE u0 (fm_M_pattern N u v1) := by
  unfold fm_M_pattern
  exact yj_fb_M_pattern_0 h
theorem yj_fb_M_wrong_43 {G : Unit} (h : Kjc u0 u)  : KjE u0 (fb_M_wrong_43 N G u) := by
  unfold fb_M_wrong_43
  repeat' (first | with_reducible assumption | with_reducible refine Kj_br ?_ ?_ | with_reducible refine Kj_bnd ?_ (fun _ _ _ => ?_) | with_reducible refine Kj_ck ?_ | with_reducible refine Kj_ltm ?_ (fun _ _ => ?_) | with_reducible refine Kj_some ?_ | with_reducible refine Kj_bo (fun _ => ?_) | with_reducible refine Kj_T ?_ (fun _ _ _ => ?_) | with_reducible refine Kj_H ?_ (fun _ _ _ => ?_) (fun _ _ => ?_) | with_reducible refine Kj_ltv (fun _ => ?_) | with_reducible refine Kj_I ?_ (by decide) | with_reducible refine Kj_A ?_ (by decide) | with_reducible refine Kj_J ?_ | with_reducible refine Kj_L ?_)
theorem yj_fb_M_wrong_27 {G : Unit} {t1 : Int32} (h : Kjc u0 u)  : KjE u0 (fb_M_wrong_27 N G u t1) := by
  unfold fb_M_wrong_27
  repeat' (first | with_reducible assumption | with_reducible refine Kj_br ?_ ?_ | with_reducible refine Kj_bnd ?_ (fun _ _ _ => ?_) | with_reducible refine Kj_ck ?_ | with_reducible refine Kj_ltm ?_ (fun _ _ => ?_) | with_reducible refine Kj_some ?_ | with_reducible refine Kj_bo (fun _ => ?_) | with_reducible refine Kj_T ?_ (fun _ _ _ => ?_) | with_reducible refine Kj_H ?_ (fun _ _ _ => ?_) (fun _ _ => ?_) | with_reducible exact yj_fb_M_wrong_43 (by assumption) | with_reducible refine Kj_ltv (fun _ => ?_) | with_reducible refine Kj_I ?_ (by decide) | with_reducible refine Kj_A ?_ (by decide) | with_reducible refine Kj_J ?_ | with_reducible refine Kj_L ?_)
theorem yj_fb_M_wrong_0 {G : Unit} {v1 : Int32} (h : Kjc u0 u)  : KjE u0 (fb_M_wrong_0 N G u v1) := by
  unfold fb_M_wrong_0
  repeat' (first | with_reducible assumption | with_reducible refine Kj_br ?_ ?_ | with_reducible refine Kj_bnd ?_ (fun _ _ _ => ?_) | with_reducible refine Kj_ck ?_ | with_reducible refine Kj_ltm ?_ (fun _ _ => ?_) | with_reducible refine Kj_some ?_ | with_reducible refine Kj_bo (fun _ => ?_) | with_reducible refine Kj_T ?_ (fun _ _ _ => ?_) | with_reducible refine Kj_H ?_ (fun _ _ _ => ?_) (fun _ _ => ?_) | with_reducible exact yj_fb_M_wrong_27 (by assumption) | with_reducible exact yj_fb_M_wrong_43 (by assumption) | with_reducible refine Kj_ltv (fun _ => ?_) | with_reducible refine Kj_I ?_ (by decide) | with_reducible refine Kj_A ?_ (by decide) | with_reducible refine Kj_J ?_ | with_reducible refine Kj_L ?_)
theorem yj_fm_M_wrong {v1 : Int32} (h : Kjc u0 u)  : KjE u0 (fm_M_wrong N u v1) := by
  unfold fm_M_wrong
  exact yj_fb_M_wrong_0 h
theorem yj_fb_M_isSign_32 {G : Unit} {t0 : Int32} (h : Kjc u0 u)  : KjE u0 (fb_M_isSign_32 N G u t0) := by
  unfold fb_M_isSign_32
  repeat' (first | with_reducible assumption | with_reducible refine Kj_br ?_ ?_ | with_reducible refine Kj_bnd ?_ (fun _ _ _ => ?_) | with_reducible refine Kj_ck ?_ | with_reducible refine Kj_ltm ?_ (fun _ _ => ?_) | with_reducible refine Kj_some ?_ | with_reducible refine Kj_bo (fun _ => ?_) | with_reducible refine Kj_T ?_ (fun _ _ _ => ?_) | with_reducible refine Kj_H ?_ (fun _ _ _ => ?_) (fun _ _ => ?_) | with_reducible refine Kj_ltv (fun _ => ?_) | with_reducible refine Kj_I ?_ (by decide) | with_reducible refine Kj_A ?_ (by decide) | with_reducible refine Kj_J ?_ | with_reducible refine Kj_L ?_)
theorem yj_fb_M_isSign_31 {G : Unit} (h : Kjc u0 u)  : KjE u0 (fb_M_isSign_31 N G u) := by
  unfold fb_M_isSign_31
  repeat' (first | with_reducible assumption | with_reducible refine Kj_br ?_ ?_ | with_reducible refine Kj_bnd ?_ (fun _ _ _ => ?_) | with_reducible refine Kj_ck ?_ | with_reducible refine Kj_ltm ?_ (fun _ _ => ?_) | with_reducible refine Kj_some ?_ | with_reducible refine Kj_bo (fun _ => ?_) | with_reducible refine Kj_T ?_ (fun _ _ _ => ?_) | with_reducible refine Kj_H ?_ (fun _ _ _ => ?_) (fun _ _ => ?_) | with_reducible exact yj_fb_M_isSign_32 (by assumption) | with_reducible refine Kj_ltv (fun _ => ?_) | with_reducible refine Kj_I ?_ (by decide) | with_reducible refine Kj_A ?_ (by decide) | with_reducible refine Kj_J ?_ | with_reducible refine Kj_L ?_)
theorem yj_fb_M_isSign_0 {G : Unit} {v1 : Int32} (h : Kjc u0 u)  : KjE u0 (fb_M_isSign_0 N G u v1) := by
  unfold fb_M_isSign_0
  repeat' (first | with_reducible assumption | with_reducible refine Kj_br ?_ ?_ | with_reducible refine Kj_bnd ?_ (fun _ _ _ => ?_) | with_reducible refine Kj_ck ?_ | with_reducible refine Kj_ltm ?_ (fun _ _ => ?_) | with_reducible refine Kj_some ?_ | with_reducible refine Kj_bo (fun _ => ?_) | with_reducible refine Kj_T ?_ (fun _ _ _ => ?_) | with_reducible refine Kj_H ?_ (fun _ _ _ => ?_) (fun _ _ => ?_) | with_reducible exact yj_fb_M_isSign_31 (by assumption) | with_reducible exact yj_fb_M_isSign_32 (by assumption) | with_reducible refine Kj_ltv (fun _ => ?_) | with_reducible refine Kj_I ?_ (by decide) | with_reducible refine Kj_A ?_ (by decide) | with_reducible refine Kj_J ?_ | with_reducible refine Kj_L ?_)
theorem yj_fm_M_isSign {v1 : Int32} (h : Kjc u0 u)  : KjE u0 (fm_M_isSign N u v1) := by
  unfold fm_M_isSign
  exact yj_fb_M_isSign_0 h
theorem yj_fb_M_takeSign_15 {G : Unit} (h : Kjc u0 u)  : KjE u0 (fb_M_takeSign_15 N G u) := by
  unfold fb_M_takeSign_15
  repeat' (first | with_reducible assumption | with_reducible refine Kj_br ?_ ?_ | with_reducible refine Kj_bnd ?_ (fun _ _ _ => ?_) | with_reducible refine Kj_ck ?_ | with_reducible refine Kj_ltm ?_ (fun _ _ => ?_) | with_reducible refine Kj_some ?_ | with_reducible refine Kj_bo (fun _ => ?_) | with_reducible refine Kj_T ?_ (fun _ _ _ => ?_) | with_reducible refine Kj_H ?_ (fun _ _ _ => ?_) (fun _ _ => ?_) | with_reducible refine Kj_ltv (fun _ => ?_) | with_reducible refine Kj_I ?_ (by decide) | with_reducible refine Kj_A ?_ (by decide) | with_reducible refine Kj_J ?_ | with_reducible refine Kj_L ?_)
theorem yj_fb_M_takeSign_0 {G : Unit} {v1 : Int32} (h : Kjc u0 u)  : KjE u0 (fb_M_takeSign_0 N G u v1) := by
  unfold fb_M_takeSign_0
  repeat' (first | with_reducible assumption | with_reducible refine Kj_br ?_ ?_ | with_reducible refine Kj_bnd ?_ (fun _ _ _ => ?_) | with_reducible refine Kj_ck ?_ | with_reducible refine Kj_ltm ?_ (fun _ _ => ?_) | with_reducible refine Kj_some ?_ | with_reducible refine Kj_bo (fun _ => ?_) | with_reducible refine Kj_T ?_ (fun _ _ _ => ?_) | with_reducible refine Kj_H ?_ (fun _ _ _ => ?_) (fun _ _ => ?_) | with_reducible exact yj_fb_M_takeSign_15 (by assumption) | with_reducible exact yj_fm_M_isSign (by assumption) | with_reducible refine Kj_ltv (fun _ => ?_) | with_reducible refine Kj_I ?_ (by decide) | with_reducible refine Kj_A ?_ (by decide) | with_reducible refine Kj_J ?_ | with_reducible refine Kj_L ?_)
theorem yj_fm_M_takeSign {v1 : Int32} (h : Kjc u0 u)  : KjE u0 (fm_M_takeSign N u v1) := by
  unfold fm_M_takeSign
  exact yj_fb_M_takeSign_0 h
theorem yj_fb_M_needSign_13 {G : Unit} (h : Kjc u0 u)  : KjE u0 (fb_M_needSign_13 N G u) := by
  unfold fb_M_needSign_13
  repeat' (first | with_reducible assumption | with_reducible refine Kj_br ?_ ?_ | with_reducible refine Kj_bnd ?_ (fun _ _ _ => ?_) | with_reducible refine Kj_ck ?_ | with_reducible refine Kj_ltm ?_ (fun _ _ => ?_) | with_reducible refine Kj_some ?_ | with_reducible refine Kj_bo (fun _ => ?_) | with_reducible refine Kj_T ?_ (fun _ _ _ => ?_) | with_reducible refine Kj_H ?_ (fun _ _ _ => ?_) (fun _ _ => ?_) | with_reducible refine Kj_ltv (fun _ => ?_) | with_reducible refine Kj_I ?_ (by decide) | with_reducible refine Kj_A ?_ (by decide) | with_reducible refine Kj_J ?_ | with_reducible refine Kj_L ?_)
theorem yj_fb_M_needSign_0 {G : Unit} {v1 : Int32} (h : Kjc u0 u)  : KjE u0 (fb_M_needSign_0 N G u v1) := by
  unfold fb_M_needSign_0
  repeat' (first | with_reducible assumption | with_reducible refine Kj_br ?_ ?_ | with_reducible refine Kj_bnd ?_ (fun _ _ _ => ?_) | with_reducible refine Kj_ck ?_ | with_reducible refine Kj_ltm ?_ (fun _ _ => ?_) | with_reducible refine Kj_some ?_ | with_reducible refine Kj_bo (fun _ => ?_) | with_reducible refine Kj_T ?_ (fun _ _ _ => ?_) | with_reducible refine Kj_H ?_ (fun _ _ _ => ?_) (fun _ _ => ?_) | with_reducible exact yj_fb_M_needSign_13 (by assumption) | with_reducible exact yj_fm_M_takeSign (by assumption) | with_reducible exact yj_fm_M_wrong (by assumption) | with_reducible refine Kj_ltv (fun _ => ?_) | with_reducible refine Kj_I ?_ (by decide) | with_reducible refine Kj_A ?_ (by decide) | with_reducible refine Kj_J ?_ | with_reducible refine Kj_L ?_)
theorem yj_fm_M_needSign {v1 : Int32} (h : Kjc u0 u)  : KjE u0 (fm_M_needSign N u v1) := by
  unfold fm_M_needSign
  exact yj_fb_M_needSign_0 h
theorem yj_fb_M_opens_14 {G : Unit} (h : Kjc u0 u)  : KjE u0 (fb_M_opens_14 N G u) := by
  unfold fb_M_opens_14
  repeat' (first | with_reducible assumption | with_reducible refine Kj_br ?_ ?_ | with_reducible refine Kj_bnd ?_ (fun _ _ _ => ?_) | with_reducible refine Kj_ck ?_ | with_reducible refine Kj_ltm ?_ (fun _ _ => ?_) | with_reducible refine Kj_some ?_ | with_reducible refine Kj_bo (fun _ => ?_) | with_reducible refine Kj_T ?_ (fun _ _ _ => ?_) | with_reducible refine Kj_H ?_ (fun _ _ _ => ?_) (fun _ _ => ?_) | with_reducible refine Kj_ltv (fun _ => ?_) | with_reducible refine Kj_I ?_ (by decide) | with_reducible refine Kj_A ?_ (by decide) | with_reducible refine Kj_J ?_ | with_reducible refine Kj_L ?_)
theorem yj_fb_M_opens_0 {G : Unit} (h : Kjc u0 u)  : KjE u0 (fb_M_opens_0 N G u) := by
  unfold fb_M_opens_0
  repeat' (first | with_reducible assumption | with_reducible refine Kj_br ?_ ?_ | with_reducible refine Kj_bnd ?_ (fun _ _ _ => ?_) | with_reducible refine Kj_ck ?_ | with_reducible refine Kj_ltm ?_ (fun _ _ => ?_) | with_reducible refine Kj_some ?_ | with_reducible refine Kj_bo (fun _ => ?_) | with_reducible refine Kj_T ?_ (fun _ _ _ => ?_) | with_reducible refine Kj_H ?_ (fun _ _ _ => ?_) (fun _ _ => ?_) | with_reducible exact yj_fb_M_opens_14 (by assumption) | with_reducible exact yj_fm_M_wrong (by assumption) | with_reducible refine Kj_ltv (fun _ => ?_) | with_reducible refine Kj_I ?_ (by decide) | with_reducible refine Kj_A ?_ (by decide) | with_reducible refine Kj_J ?_ | with_reducible refine Kj_L ?_)
theorem yj_fm_M_opens  (h : Kjc u0 u)  : KjE u0 (fm_M_opens N u) := by
  unfold fm_M_opens
  exact yj_fb_M_opens_0 h
theorem yj_fb_M_boundIn_2 {G : (MS → Int32 → Int32 → Int32 → Option (MS × Int32))} {v1 : Int32} {v2 : Int32} {v3 : Int32} (h : Kjc u0 u) (hG0 : ∀ (u : MS) a0 a1 a2, Kjc u0 u → KjE u0 (G u a0 a1 a2)) : KjE u0 (fb_M_boundIn_2 N G u v1 v2 v3) := by
  unfold fb_M_boundIn_2
  repeat' (first | with_reducible assumption | with_reducible refine Kj_br ?_ ?_ | with_reducible refine Kj_bnd ?_ (fun _ _ _ => ?_) | with_reducible refine Kj_ck ?_ | with_reducible refine Kj_ltm ?_ (fun _ _ => ?_) | with_reducible refine Kj_some ?_ | with_reducible refine Kj_bo (fun _ => ?_) | with_reducible refine Kj_T ?_ (fun _ _ _ => ?_) | with_reducible refine Kj_H ?_ (fun _ _ _ => ?_) (fun _ _ => ?_) | with_reducible exact hG0 _ _ _ _ (by assumption) | with_reducible refine Kj_ltv (fun _ => ?_) | with_reducible refine Kj_I ?_ (by decide) | with_reducible refine Kj_A ?_ (by decide) | with_reducible refine Kj_J ?_ | with_reducible refine Kj_L ?_)
theorem yj_fb_M_boundIn_0 {G : (MS → Int32 → Int32 → Int32 → Option (MS × Int32))} {v1 : Int32} {v2 : Int32} (h : Kjc u0 u) (hG0 : ∀ (u : MS) a0 a1 a2, Kjc u0 u → KjE u0 (G u a0 a1 a2)) : KjE u0 (fb_M_boundIn_0 N G u v1 v2) := by
  unfold fb_M_boundIn_0
  repeat' (first | with_reducible assumption | with_reducible refine Kj_br ?_ ?_ | with_reducible refine Kj_bnd ?_ (fun _ _ _ => ?_) | with_reducible refine Kj_ck ?_ | with_reducible refine Kj_ltm ?_ (fun _ _ => ?_) | with_reducible refine Kj_some ?_ | with_reducible refine Kj_bo (fun _ => ?_) | with_reducible refine Kj_T ?_ (fun _ _ _ => ?_) | with_reducible refine Kj_H ?_ (fun _ _ _ => ?_) (fun _ _ => ?_) | with_reducible exact hG0 _ _ _ _ (by assumption) | with_reducible refine Kj_ltv (fun _ => ?_) | with_reducible refine Kj_I ?_ (by decide) | with_reducible refine Kj_A ?_ (by decide) | with_reducible refine Kj_J ?_ | with_reducible refine Kj_L ?_)
theorem yj_gg_M_boundIn  (n : Nat) : (∀ (u : MS) a0 a1 a2, Kjc u0 u → KjE u0 ((gg_M_boundIn N n) u a0 a1 a2)) := by
  induction n with
  | zero => exact fun _ _ _ _ _ => Kj_none
  | succ n ih => exact fun _ _ _ _ h => yj_fb_M_boundIn_2 (N := N) h ih
theorem yj_fm_M_boundIn {v1 : Int32} {v2 : Int32} (h : Kjc u0 u)  : KjE u0 (fm_M_boundIn N u v1 v2) := by
  unfold fm_M_boundIn
  exact yj_fb_M_boundIn_0 h ((yj_gg_M_boundIn N))
theorem yj_fb_M_found_17 {S : SG_M_found} {G : (MS → Int32 → Int32 → Int32 → Option (MS × Int32))} {v1 : Int32} {v2 : Int32} {v4 : Int32} (h : Kjc u0 u) (hS0 : ∀ (u : MS) a0 a1, Kjc u0 u → KjE u0 (S u a0 a1)) (hG0 : ∀ (u : MS) a0 a1 a2, Kjc u0 u → KjE u0 (G u a0 a1 a2)) : KjE u0 (fb_M_found_17 N S G u v1 v2 v4) := by
  unfold fb_M_found_17
  repeat' (first | with_reducible assumption | with_reducible refine Kj_br ?_ ?_ | with_reducible refine Kj_bnd ?_ (fun _ _ _ => ?_) | with_reducible refine Kj_ck ?_ | with_reducible refine Kj_ltm ?_ (fun _ _ => ?_) | with_reducible refine Kj_some ?_ | with_reducible refine Kj_bo (fun _ => ?_) | with_reducible refine Kj_T ?_ (fun _ _ _ => ?_) | with_reducible refine Kj_H ?_ (fun _ _ _ => ?_) (fun _ _ => ?_) | with_reducible exact hS0 _ _ _ (by assumption) | with_reducible exact hG0 _ _ _ _ (by assumption) | with_reducible refine Kj_ltv (fun _ => ?_) | with_reducible refine Kj_I ?_ (by decide) | with_reducible refine Kj_A ?_ (by decide) | with_reducible refine Kj_J ?_ | with_reducible refine Kj_L ?_)
theorem yj_fb_M_found_0 {S : SG_M_found} {G : (MS → Int32 → Int32 → Int32 → Option (MS × Int32))} {v1 : Int32} {v2 : Int32} (h : Kjc u0 u) (hS0 : ∀ (u : MS) a0 a1, Kjc u0 u → KjE u0 (S u a0 a1)) (hG0 : ∀ (u : MS) a0 a1 a2, Kjc u0 u → KjE u0 (G u a0 a1 a2)) : KjE u0 (fb_M_found_0 N S G u v1 v2) := by
  unfold fb_M_found_0
  repeat' (first | with_reducible assumption | with_reducible refine Kj_br ?_ ?_ | with_reducible refine Kj_bnd ?_ (fun _ _ _ => ?_) | with_reducible refine Kj_ck ?_ | with_reducible refine Kj_ltm ?_ (fun _ _ => ?_) | with_reducible refine Kj_some ?_ | with_reducible refine Kj_bo (fun _ => ?_) | with_reducible refine Kj_T ?_ (fun _ _ _ => ?_) | with_reducible refine Kj_H ?_ (fun _ _ _ => ?_) (fun _ _ => ?_) | with_reducible exact yj_fm_M_boundIn (by assumption) | with_reducible exact hS0 _ _ _ (by assumption) | with_reducible exact hG0 _ _ _ _ (by assumption) | with_reducible refine Kj_ltv (fun _ => ?_) | with_reducible refine Kj_I ?_ (by decide) | with_reducible refine Kj_A ?_ (by decide) | with_reducible refine Kj_J ?_ | with_reducible refine Kj_L ?_)
theorem yj_gg_M_found {S : SG_M_found} (hS0 : ∀ (u : MS) a0 a1, Kjc u0 u → KjE u0 (S u a0 a1)) (n : Nat) : (∀ (u : MS) a0 a1 a2, Kjc u0 u → KjE u0 ((gg_M_found N S n) u a0 a1 a2)) := by
  induction n with
  | zero => exact fun _ _ _ _ _ => Kj_none
  | succ n ih => exact fun _ _ _ _ h => yj_fb_M_found_17 (N := N) h hS0 ih
theorem yj_fm_M_found {S : SG_M_found} {v1 : Int32} {v2 : Int32} (h : Kjc u0 u) (hS0 : ∀ (u : MS) a0 a1, Kjc u0 u → KjE u0 (S u a0 a1)) : KjE u0 (fm_M_found N S u v1 v2) := by
  unfold fm_M_found
  exact yj_fb_M_found_0 h hS0 ((yj_gg_M_found (N := N) hS0 N))
theorem yj_rc_M_found  (n : Nat) : (∀ (u : MS) a0 a1, Kjc u0 u → KjE u0 ((rc_M_found N n) u a0 a1)) := by
  induction n with
  | zero => exact fun _ _ _ _ => Kj_none
  | succ n ih => exact fun _ _ _ h => yj_fm_M_found (N := N) h ih
theorem yj_fr_M_found {v1 : Int32} {v2 : Int32} (h : Kjc u0 u) : KjE u0 (fr_M_found N u v1 v2) := by
  unfold fr_M_found
  exact (yj_rc_M_found (N := N) 30) _ _ _ h
theorem yj_fb_M_bind_107 {G : Unit} (h : Kjc u0 u)  : KjE u0 (fb_M_bind_107 N G u) := by
  unfold fb_M_bind_107
  repeat' (first | with_reducible assumption | with_reducible refine Kj_br ?_ ?_ | with_reducible refine Kj_bnd ?_ (fun _ _ _ => ?_) | with_reducible refine Kj_ck ?_ | with_reducible refine Kj_ltm ?_ (fun _ _ => ?_) | with_reducible refine Kj_some ?_ | with_reducible refine Kj_bo (fun _ => ?_) | with_reducible refine Kj_T ?_ (fun _ _ _ => ?_) | with_reducible refine Kj_H ?_ (fun _ _ _ => ?_) (fun _ _ => ?_) | with_reducible refine Kj_ltv (fun _ => ?_) | with_reducible refine Kj_I ?_ (by decide) | with_reducible refine Kj_A ?_ (by decide) | with_reducible refine Kj_J ?_ | with_reducible refine Kj_L ?_)
theorem yj_fb_M_bind_87 {G : Unit} {t0 : Nat} {t1 : Int32} {t2 : Int32} (h : Kjc u0 u) (hn0 : 33 ≤ t0 ∧ t0 < 65) : KjE u0 (fb_M_bind_87 N G u t0 t1 t2) := by
  unfold fb_M_bind_87
  repeat' (first | with_reducible assumption | with_reducible refine Kj_A ?_ hn0 | with_reducible refine Kj_br ?_ ?_ | with_reducible refine Kj_bnd ?_ (fun _ _ _ => ?_) | with_reducible refine Kj_ck ?_ | with_reducible refine Kj_ltm ?_ (fun _ _ => ?_) | with_reducible refine Kj_some ?_ | with_reducible refine Kj_bo (fun _ => ?_) | with_reducible refine Kj_T ?_ (fun _ _ _ => ?_) | with_reducible refine Kj_H ?_ (fun _ _ _ => ?_) (fun _ _ => ?_) | with_reducible exact yj_fb_M_bind_107 (by assumption) | with_reducible refine Kj_ltv (fun _ => ?_) | with_reducible refine Kj_I ?_ (by decide) | with_reducible refine Kj_A ?_ (by decide) | with_reducible refine Kj_J ?_ | with_reducible refine Kj_L ?_)
theorem yj_fb_M_bind_0 {G : Unit} {v1 : Int32} (h : Kjc u0 u)  : KjE u0 (fb_M_bind_0 N G u v1) := by
  unfold fb_M_bind_0
  repeat' (first | with_reducible assumption | with_reducible refine Kj_br ?_ ?_ | with_reducible refine Kj_bnd ?_ (fun _ _ _ => ?_) | with_reducible refine Kj_ck ?_ | with_reducible refine Kj_ltm ?_ (fun _ _ => ?_) | with_reducible refine Kj_some ?_ | with_reducible refine Kj_bo (fun _ => ?_) | with_reducible refine Kj_T ?_ (fun _ _ _ => ?_) | with_reducible refine Kj_H ?_ (fun _ _ _ => ?_) (fun _ _ => ?_) | with_reducible exact yj_fb_M_bind_87 (by assumption) (by decide) | with_reducible refine Kj_ltv (fun _ => ?_) | with_reducible refine Kj_I ?_ (by decide) | with_reducible refine Kj_A ?_ (by decide) | with_reducible refine Kj_J ?_ | with_reducible refine Kj_L ?_)
theorem yj_fm_M_bind {v1 : Int32} (h : Kjc u0 u)  : KjE u0 (fm_M_bind N u v1) := by
  unfold fm_M_bind
  exact yj_fb_M_bind_0 h
theorem yj_fb_M_isUnderscore_47 {G : Unit} {t0 : Int32} (h : Kjc u0 u)  : KjE u0 (fb_M_isUnderscore_47 N G u t0) := by
  unfold fb_M_isUnderscore_47
  repeat' (first | with_reducible assumption | with_reducible refine Kj_br ?_ ?_ | with_reducible refine Kj_bnd ?_ (fun _ _ _ => ?_) | with_reducible refine Kj_ck ?_ | with_reducible refine Kj_ltm ?_ (fun _ _ => ?_) | with_reducible refine Kj_some ?_ | with_reducible refine Kj_bo (fun _ => ?_) | with_reducible refine Kj_T ?_ (fun _ _ _ => ?_) | with_reducible refine Kj_H ?_ (fun _ _ _ => ?_) (fun _ _ => ?_) | with_reducible refine Kj_ltv (fun _ => ?_) | with_reducible refine Kj_I ?_ (by decide) | with_reducible refine Kj_A ?_ (by decide) | with_reducible refine Kj_J ?_ | with_reducible refine Kj_L ?_)
theorem yj_fb_M_isUnderscore_46 {G : Unit} (h : Kjc u0 u)  : KjE u0 (fb_M_isUnderscore_46 N G u) := by
  unfold fb_M_isUnderscore_46
  repeat' (first | with_reducible assumption | with_reducible refine Kj_br ?_ ?_ | with_reducible refine Kj_bnd ?_ (fun _ _ _ => ?_) | with_reducible refine Kj_ck ?_ | with_reducible refine Kj_ltm ?_ (fun _ _ => ?_) | with_reducible refine Kj_some ?_ | with_reducible refine Kj_bo (fun _ => ?_) | with_reducible refine Kj_T ?_ (fun _ _ _ => ?_) | with_reducible refine Kj_H ?_ (fun _ _ _ => ?_) (fun _ _ => ?_) | with_reducible exact yj_fb_M_isUnderscore_47 (by assumption) | with_reducible refine Kj_ltv (fun _ => ?_) | with_reducible refine Kj_I ?_ (by decide) | with_reducible refine Kj_A ?_ (by decide) | with_reducible refine Kj_J ?_ | with_reducible refine Kj_L ?_)
theorem yj_fb_M_isUnderscore_0 {G : Unit} {v1 : Int32} (h : Kjc u0 u)  : KjE u0 (fb_M_isUnderscore_0 N G u v1) := by
  unfold fb_M_isUnderscore_0
  repeat' (first | with_reducible assumption | with_reducible refine Kj_br ?_ ?_ | with_reducible refine Kj_bnd ?_ (fun _ _ _ => ?_) | with_reducible refine Kj_ck ?_ | with_reducible refine Kj_ltm ?_ (fun _ _ => ?_) | with_reducible refine Kj_some ?_ | with_reducible refine Kj_bo (fun _ => ?_) | with_reducible refine Kj_T ?_ (fun _ _ _ => ?_) | with_reducible refine Kj_H ?_ (fun _ _ _ => ?_) (fun _ _ => ?_) | with_reducible exact yj_fb_M_isUnderscore_46 (by assumption) | with_reducible exact yj_fb_M_isUnderscore_47 (by assumption) | with_reducible refine Kj_ltv (fun _ => ?_) | with_reducible refine Kj_I ?_ (by decide) | with_reducible refine Kj_A ?_ (by decide) | with_reducible refine Kj_J ?_ | with_reducible refine Kj_L ?_)
theorem yj_fm_M_isUnderscore {v1 : Int32} (h : Kjc u0 u)  : KjE u0 (fm_M_isUnderscore N u v1) := by
  unfold fm_M_isUnderscore
  exact yj_fb_M_isUnderscore_0 h
theorem yj_fb_M_term_0 {G : Unit} {v0 : Int32} {v1 : Int32} (h : Kjc u0 u)  : KjE u0 (fb_M_term_0 N G u v0 v1) := by
  unfold fb_M_term_0
  repeat' (first | with_reducible assumption | with_reducible refine Kj_br ?_ ?_ | with_reducible refine Kj_bnd ?_ (fun _ _ _ => ?_) | with_reducible refine Kj_ck ?_ | with_reducible refine Kj_ltm ?_ (fun _ _ => ?_) | with_reducible refine Kj_some ?_ | with_reducible refine Kj_bo (fun _ => ?_) | with_reducible refine Kj_T ?_ (fun _ _ _ => ?_) | with_reducible refine Kj_H ?_ (fun _ _ _ => ?_) (fun _ _ => ?_) | with_reducible refine Kj_ltv (fun _ => ?_) | with_reducible refine Kj_I ?_ (by decide) | with_reducible refine Kj_A ?_ (by decide) | with_reducible refine Kj_J ?_ | with_reducible refine Kj_L ?_)
theorem yj_fm_M_term {v0 : Int32} {v1 : Int32} (h : Kjc u0 u)  : KjE u0 (fm_M_term N u v0 v1) := by
  unfold fm_M_term
  exact yj_fb_M_term_0 h
theorem yj_fb_M_namePattern_105 {G : Unit} {v2 : Int32} (h : Kjc u0 u)  : KjE u0 (fb_M_namePattern_105 N G u v2) := by
  unfold fb_M_namePattern_105
  repeat' (first | with_reducible assumption | with_reducible refine Kj_br ?_ ?_ | with_reducible refine Kj_bnd ?_ (fun _ _ _ => ?_) | with_reducible refine Kj_ck ?_ | with_reducible refine Kj_ltm ?_ (fun _ _ => ?_) | with_reducible refine Kj_some ?_ | with_reducible refine Kj_bo (fun _ => ?_) | with_reducible refine Kj_T ?_ (fun _ _ _ => ?_) | with_reducible refine Kj_H ?_ (fun _ _ _ => ?_) (fun _ _ => ?_) | with_reducible refine Kj_ltv (fun _ => ?_) | with_reducible refine Kj_I ?_ (by decide) | with_reducible refine Kj_A ?_ (by decide) | with_reducible refine Kj_J ?_ | with_reducible refine Kj_L ?_)
theorem yj_fb_M_namePattern_104 {G : Unit} {v2 : Int32} {t0 : Nat} {t1 : Int32} {t2 : Int32} (h : Kjc u0 u) (hn0 : 33 ≤ t0 ∧ t0 < 65) : KjE u0 (fb_M_namePattern_104 N G u v2 t0 t1 t2) := by
  unfold fb_M_namePattern_104
  repeat' (first | with_reducible assumption | with_reducible refine Kj_A ?_ hn0 | with_reducible refine Kj_br ?_ ?_ | with_reducible refine Kj_bnd ?_ (fun _ _ _ => ?_) | with_reducible refine Kj_ck ?_ | with_reducible refine Kj_ltm ?_ (fun _ _ => ?_) | with_reducible refine Kj_some ?_ | with_reducible refine Kj_bo (fun _ => ?_) | with_reducible refine Kj_T ?_ (fun _ _ _ => ?_) | with_reducible refine Kj_H ?_ (fun _ _ _ => ?_) (fun _ _ => ?_) | with_reducible exact yj_fb_M_namePattern_105 (by assumption) | with_reducible refine Kj_ltv (fun _ => ?_) | with_reducible refine Kj_I ?_ (by decide) | with_reducible refine Kj_A ?_ (by decide) | with_reducible refine Kj_J ?_ | with_reducible refine Kj_L ?_)
theorem yj_fb_M_namePattern_73 {G : Unit} {v3 : Int32} {t1 : Int32} (h : Kjc u0 u)  : KjE u0 (fb_M_namePattern_73 N G u v3 t1) := by
  unfold fb_M_namePattern_73
  repeat' (first | with_reducible assumption | with_reducible refine Kj_br ?_ ?_ | with_reducible refine Kj_bnd ?_ (fun _ _ _ => ?_) | with_reducible refine Kj_ck ?_ | with_reducible refine Kj_ltm ?_ (fun _ _ => ?_) | with_reducible refine Kj_some ?_ | with_reducible refine Kj_bo (fun _ => ?_) | with_reducible refine Kj_T ?_ (fun _ _ _ => ?_) | with_reducible refine Kj_H ?_ (fun _ _ _ => ?_) (fun _ _ => ?_) | with_reducible exact yj_fb_M_namePattern_104 (by assumption) (by decide) | with_reducible exact yj_fm_M_pattern (by assumption) | with_reducible exact yj_fm_M_bind (by assumption) | with_reducible refine Kj_ltv (fun _ => ?_) | with_reducible refine Kj_I ?_ (by decide) | with_reducible refine Kj_A ?_ (by decide) | with_reducible refine Kj_J ?_ | with_reducible refine Kj_L ?_)
theorem yj_fb_M_namePattern_61 {G : Unit} {t0 : Int32} (h : Kjc u0 u)  : KjE u0 (fb_M_namePattern_61 N G u t0) := by
  unfold fb_M_namePattern_61
  repeat' (first | with_reducible assumption | with_reducible refine Kj_br ?_ ?_ | with_reducible refine Kj_bnd ?_ (fun _ _ _ => ?_) | with_reducible refine Kj_ck ?_ | with_reducible refine Kj_ltm ?_ (fun _ _ => ?_) | with_reducible refine Kj_some ?_ | with_reducible refine Kj_bo (fun _ => ?_) | with_reducible refine Kj_T ?_ (fun _ _ _ => ?_) | with_reducible refine Kj_H ?_ (fun _ _ _ => ?_) (fun _ _ => ?_) | with_reducible exact yj_fb_M_namePattern_73 (by assumption) | with_reducible refine Kj_ltv (fun _ => ?_) | with_reducible refine Kj_I ?_ (by decide) | with_reducible refine Kj_A ?_ (by decide) | with_reducible refine Kj_J ?_ | with_reducible refine Kj_L ?_)
theorem yj_fb_M_namePattern_0 {G : Unit} {v1 : Int32} (h : Kjc u0 u)  : KjE u0 (fb_M_namePattern_0 N G u v1) := by
  unfold fb_M_namePattern_0
  repeat' (first | with_reducible assumption | with_reducible refine Kj_br ?_ ?_ | with_reducible refine Kj_bnd ?_ (fun _ _ _ => ?_) | with_reducible refine Kj_ck ?_ | with_reducible refine Kj_ltm ?_ (fun _ _ => ?_) | with_reducible refine Kj_some ?_ | with_reducible refine Kj_bo (fun _ => ?_) | with_reducible refine Kj_T ?_ (fun _ _ _ => ?_) | with_reducible refine Kj_H ?_ (fun _ _ _ => ?_) (fun _ _ => ?_) | with_reducible exact yj_fb_M_namePattern_105 (by assumption) | with_reducible exact yj_fb_M_namePattern_61 (by assumption) | with_reducible exact yj_fm_M_isUnderscore (by assumption) | with_reducible exact yj_fm_M_boundIn (by assumption) | with_reducible exact yj_fm_M_pattern (by assumption) | with_reducible exact yj_fr_M_found (by assumption) | with_reducible refine Kj_ltv (fun _ => ?_) | with_reducible refine Kj_I ?_ (by decide) | with_reducible refine Kj_A ?_ (by decide) | with_reducible refine Kj_J ?_ | with_reducible refine Kj_L ?_)
theorem yj_fm_M_namePattern {v1 : Int32} (h : Kjc u0 u)  : KjE u0 (fm_M_namePattern N u v1) := by
  unfold fm_M_namePattern
  exact yj_fb_M_namePattern_0 h
theorem yj_fb_M_rowPattern_194 {S : SG_M_rowPattern} {G : (MS → Int32 → Int32 → Int32 → Int32 → Int32 → Int32 → Int32 → Option (MS × Int32))} {v3 : Int32} {v4 : Int32} {v6 : Int32} (h : Kjc u0 u) (hS0 : ∀ (u : MS) a0, Kjc u0 u → KjE u0 (S.1 u a0)) (hS1 : ∀ (u : MS) a0, Kjc u0 u → KjE u0 (S.2 u a0)) (hG0 : ∀ (u : MS) a0 a1 a2 a3 a4 a5 a6, Kjc u0 u → KjE u0 (G u a0 a1 a2 a3 a4 a5 a6)) : KjE u0 (fb_M_rowPattern_194 N S G u v3 v4 v6) := by
  unfold fb_M_rowPattern_194
  repeat' (first | with_reducible assumption | with_reducible refine Kj_br ?_ ?_ | with_reducible refine Kj_bnd ?_ (fun _ _ _ => ?_) | with_reducible refine Kj_ck ?_ | with_reducible refine Kj_ltm ?_ (fun _ _ => ?_) | with_reducible refine Kj_some ?_ | with_reducible refine Kj_bo (fun _ => ?_) | with_reducible refine Kj_T ?_ (fun _ _ _ => ?_) | with_reducible refine Kj_H ?_ (fun _ _ _ => ?_) (fun _ _ => ?_) | with_reducible exact yj_fm_M_needSign (by assumption) | with_reducible exact hS0 _ _ (by assumption) | with_reducible exact hS1 _ _ (by assumption) | with_reducible exact hG0 _ _ _ _ _ _ _ _ (by assumption) | with_reducible refine Kj_ltv (fun _ => ?_) | with_reducible refine Kj_I ?_ (by decide) | with_reducible refine Kj_A ?_ (by decide) | with_reducible refine Kj_J ?_ | with_reducible refine Kj_L ?_)
theorem yj_fb_M_rowPattern_186 {S : SG_M_rowPattern} {G : (MS → Int32 → Int32 → Int32 → Int32 → Int32 → Int32 → Int32 → Option (MS × Int32))} {v3 : Int32} {v4 : Int32} {v6 : Int32} (h : Kjc u0 u) (hS0 : ∀ (u : MS) a0, Kjc u0 u → KjE u0 (S.1 u a0)) (hS1 : ∀ (u : MS) a0, Kjc u0 u → KjE u0 (S.2 u a0)) (hG0 : ∀ (u : MS) a0 a1 a2 a3 a4 a5 a6, Kjc u0 u → KjE u0 (G u a0 a1 a2 a3 a4 a5 a6)) : KjE u0 (fb_M_rowPattern_186 N S G u v3 v4 v6) := by
  unfold fb_M_rowPattern_186
  repeat' (first | with_reducible assumption | with_reducible refine Kj_br ?_ ?_ | with_reducible refine Kj_bnd ?_ (fun _ _ _ => ?_) | with_reducible refine Kj_ck ?_ | with_reducible refine Kj_ltm ?_ (fun _ _ => ?_) | with_reducible refine Kj_some ?_ | with_reducible refine Kj_bo (fun _ => ?_) | with_reducible refine Kj_T ?_ (fun _ _ _ => ?_) | with_reducible refine Kj_H ?_ (fun _ _ _ => ?_) (fun _ _ => ?_) | with_reducible exact yj_fb_M_rowPattern_194 (by assumption) hS0 hS1 hG0 | with_reducible exact hS0 _ _ (by assumption) | with_reducible exact hS1 _ _ (by assumption) | with_reducible exact hG0 _ _ _ _ _ _ _ _ (by assumption) | with_reducible refine Kj_ltv (fun _ => ?_) | with_reducible refine Kj_I ?_ (by decide) | with_reducible refine Kj_A ?_ (by decide) | with_reducible refine Kj_J ?_ | with_reducible refine Kj_L ?_)
theorem yj_fb_M_rowPattern_151 {S : SG_M_rowPattern} {G : (MS → Int32 → Int32 → Int32 → Int32 → Int32 → Int32 → Int32 → Option (MS × Int32))} {v1 : Int32} {v2 : Int32} {v3 : Int32} {v4 : Int32} {v5 : Int32} {v6 : Int32} (h : Kjc u0 u) (hS0 : ∀ (u : MS) a0, Kjc u0 u → KjE u0 (S.1 u a0)) (hS1 : ∀ (u : MS) a0, Kjc u0 u → KjE u0 (S.2 u a0)) (hG0 : ∀ (u : MS) a0 a1 a2 a3 a4 a5 a6, Kjc u0 u → KjE u0 (G u a0 a1 a2 a3 a4 a5 a6)) : KjE u0 (fb_M_rowPattern_151 N S G u v1 v2 v3 v4 v5 v6) := by
  unfold fb_M_rowPattern_151
  repeat' (first | with_reducible assumption | with_reducible refine Kj_br ?_ ?_ | with_reducible refine Kj_bnd ?_ (fun _ _ _ => ?_) | with_reducible refine Kj_ck ?_ | with_reducible refine Kj_ltm ?_ (fun _ _ => ?_) | with_reducible refine Kj_some ?_ | with_reducible refine Kj_bo (fun _ => ?_) | with_reducible refine Kj_T ?_ (fun _ _ _ => ?_) | with_reducible refine Kj_H ?_ (fun _ _ _ => ?_) (fun _ _ => ?_) | with_reducible exact yj_fb_M_rowPattern_186 (by assumption) hS0 hS1 hG0 | with_reducible exact yj_fb_M_rowPattern_194 (by assumption) hS0 hS1 hG0 | with_reducible exact yj_fm_M_takeSign (by assumption) | with_reducible exact hS0 _ _ (by assumption) | with_reducible exact hS1 _ _ (by assumption) | with_reducible exact hG0 _ _ _ _ _ _ _ _ (by assumption) | with_reducible refine Kj_ltv (fun _ => ?_) | with_reducible refine Kj_I ?_ (by decide) | with_reducible refine Kj_A ?_ (by decide) | with_reducible refine Kj_J ?_ | with_reducible refine Kj_L ?_)
theorem yj_fb_M_rowPattern_140 {S : SG_M_rowPattern} {G : (MS → Int32 → Int32 → Int32 → Int32 → Int32 → Int32 → Int32 → Option (MS × Int32))} {v1 : Int32} {v2 : Int32} {v3 : Int32} {v4 : Int32} {v5 : Int32} {v6 : Int32} (h : Kjc u0 u) (hS0 : ∀ (u : MS) a0, Kjc u0 u → KjE u0 (S.1 u a0)) (hS1 : ∀ (u : MS) a0, Kjc u0 u → KjE u0 (S.2 u a0)) (hG0 : ∀ (u : MS) a0 a1 a2 a3 a4 a5 a6, Kjc u0 u → KjE u0 (G u a0 a1 a2 a3 a4 a5 a6)) : KjE u0 (fb_M_rowPattern_140 N S G u v1 v2 v3 v4 v5 v6) := by
  unfold fb_M_rowPattern_140
  repeat' (first | with_reducible assumption | with_reducible refine Kj_br ?_ ?_ | with_reducible refine Kj_bnd ?_ (fun _ _ _ => ?_) | with_reducible refine Kj_ck ?_ | with_reducible refine Kj_ltm ?_ (fun _ _ => ?_) | with_reducible refine Kj_some ?_ | with_reducible refine Kj_bo (fun _ => ?_) | with_reducible refine Kj_T ?_ (fun _ _ _ => ?_) | with_reducible refine Kj_H ?_ (fun _ _ _ => ?_) (fun _ _ => ?_) | with_reducible exact yj_fm_M_takeSign (by assumption) | with_reducible exact hS0 _ _ (by assumption) | with_reducible exact hS1 _ _ (by assumption) | with_reducible exact hG0 _ _ _ _ _ _ _ _ (by assumption) | with_reducible refine Kj_ltv (fun _ => ?_) | with_reducible refine Kj_I ?_ (by decide) | with_reducible refine Kj_A ?_ (by decide) | with_reducible refine Kj_J ?_ | with_reducible refine Kj_L ?_)
theorem yj_fb_M_rowPattern_112 {S : SG_M_rowPattern} {G : (MS → Int32 → Int32 → Int32 → Int32 → Int32 → Int32 → Int32 → Option (MS × Int32))} {v1 : Int32} {v2 : Int32} {v3 : Int32} {v4 : Int32} {v6 : Int32} {v8 : Int32} (h : Kjc u0 u) (hS0 : ∀ (u : MS) a0, Kjc u0 u → KjE u0 (S.1 u a0)) (hS1 : ∀ (u : MS) a0, Kjc u0 u → KjE u0 (S.2 u a0)) (hG0 : ∀ (u : MS) a0 a1 a2 a3 a4 a5 a6, Kjc u0 u → KjE u0 (G u a0 a1 a2 a3 a4 a5 a6)) : KjE u0 (fb_M_rowPattern_112 N S G u v1 v2 v3 v4 v6 v8) := by
  unfold fb_M_rowPattern_112
  repeat' (first | with_reducible assumption | with_reducible refine Kj_br ?_ ?_ | with_reducible refine Kj_bnd ?_ (fun _ _ _ => ?_) | with_reducible refine Kj_ck ?_ | with_reducible refine Kj_ltm ?_ (fun _ _ => ?_) | with_reducible refine Kj_some ?_ | with_reducible refine Kj_bo (fun _ => ?_) | with_reducible refine Kj_T ?_ (fun _ _ _ => ?_) | with_reducible refine Kj_H ?_ (fun _ _ _ => ?_) (fun _ _ => ?_) | with_reducible exact yj_fb_M_rowPattern_140 (by assumption) hS0 hS1 hG0 | with_reducible exact yj_fm_M_isSign (by assumption) | with_reducible exact yj_fm_M_wrong (by assumption) | with_reducible exact hS0 _ _ (by assumption) | with_reducible exact hS1 _ _ (by assumption) | with_reducible exact hG0 _ _ _ _ _ _ _ _ (by assumption) | with_reducible refine Kj_ltv (fun _ => ?_) | with_reducible refine Kj_I ?_ (by decide) | with_reducible refine Kj_A ?_ (by decide) | with_reducible refine Kj_J ?_ | with_reducible refine Kj_L ?_)
theorem yj_fb_M_rowPattern_66 {S : SG_M_rowPattern} {G : (MS → Int32 → Int32 → Int32 → Int32 → Int32 → Int32 → Int32 → Option (MS × Int32))} {v1 : Int32} {v2 : Int32} {v3 : Int32} {v4 : Int32} {v5 : Int32} {v6 : Int32} {v7 : Int32} (h : Kjc u0 u) (hS0 : ∀ (u : MS) a0, Kjc u0 u → KjE u0 (S.1 u a0)) (hS1 : ∀ (u : MS) a0, Kjc u0 u → KjE u0 (S.2 u a0)) (hG0 : ∀ (u : MS) a0 a1 a2 a3 a4 a5 a6, Kjc u0 u → KjE u0 (G u a0 a1 a2 a3 a4 a5 a6)) : KjE u0 (fb_M_rowPattern_66 N S G u v1 v2 v3 v4 v5 v6 v7) := by
  unfold fb_M_rowPattern_66
  repeat' (first | with_reducible assumption | with_reducible refine Kj_br ?_ ?_ | with_reducible refine Kj_bnd ?_ (fun _ _ _ => ?_) | with_reducible refine Kj_ck ?_ | with_reducible refine Kj_ltm ?_ (fun _ _ => ?_) | with_reducible refine Kj_some ?_ | with_reducible refine Kj_bo (fun _ => ?_) | with_reducible refine Kj_T ?_ (fun _ _ _ => ?_) | with_reducible refine Kj_H ?_ (fun _ _ _ => ?_) (fun _ _ => ?_) | with_reducible exact yj_fb_M_rowPattern_112 (by assumption) hS0 hS1 hG0 | with_reducible exact yj_fb_M_rowPattern_151 (by assumption) hS0 hS1 hG0 | with_reducible exact hS0 _ _ (by assumption) | with_reducible exact hS1 _ _ (by assumption) | with_reducible exact hG0 _ _ _ _ _ _ _ _ (by assumption) | with_reducible refine Kj_ltv (fun _ => ?_) | with_reducible refine Kj_I ?_ (by decide) | with_reducible refine Kj_A ?_ (by decide) | with_reducible refine Kj_J ?_ | with_reducible refine Kj_L ?_)
theorem yj_fb_M_rowPattern_27 {S : SG_M_rowPattern} {G : (MS → Int32 → Int32 → Int32 → Int32 → Int32 → Int32 → Int32 → Option (MS × Int32))} {v1 : Int32} {v2 : Int32} {v3 : Int32} {t1 : Int32} (h : Kjc u0 u) (hS0 : ∀ (u : MS) a0, Kjc u0 u → KjE u0 (S.1 u a0)) (hS1 : ∀ (u : MS) a0, Kjc u0 u → KjE u0 (S.2 u a0)) (hG0 : ∀ (u : MS) a0 a1 a2 a3 a4 a5 a6, Kjc u0 u → KjE u0 (G u a0 a1 a2 a3 a4 a5 a6)) : KjE u0 (fb_M_rowPattern_27 N S G u v1 v2 v3 t1) := by
  unfold fb_M_rowPattern_27
  repeat' (first | with_reducible assumption | with_reducible refine Kj_br ?_ ?_ | with_reducible refine Kj_bnd ?_ (fun _ _ _ => ?_) | with_reducible refine Kj_ck ?_ | with_reducible refine Kj_ltm ?_ (fun _ _ => ?_) | with_reducible refine Kj_some ?_ | with_reducible refine Kj_bo (fun _ => ?_) | with_reducible refine Kj_T ?_ (fun _ _ _ => ?_) | with_reducible refine Kj_H ?_ (fun _ _ _ => ?_) (fun _ _ => ?_) | with_reducible exact yj_fb_M_rowPattern_194 (by assumption) hS0 hS1 hG0 | with_reducible exact yj_fm_M_pattern (by assumption) | with_reducible exact yj_fm_M_isSign (by assumption) | with_reducible exact hS0 _ _ (by assumption) | with_reducible exact hS1 _ _ (by assumption) | with_reducible exact hG0 _ _ _ _ _ _ _ _ (by assumption) | with_reducible refine Kj_ltv (fun _ => ?_) | with_reducible refine Kj_I ?_ (by decide) | with_reducible refine Kj_A ?_ (by decide) | with_reducible refine Kj_J ?_ | with_reducible refine Kj_L ?_)
theorem yj_fb_M_rowPattern_15 {S : SG_M_rowPattern} {G : (MS → Int32 → Int32 → Int32 → Int32 → Int32 → Int32 → Int32 → Option (MS × Int32))} {v1 : Int32} {v2 : Int32} {t0 : Int32} (h : Kjc u0 u) (hS0 : ∀ (u : MS) a0, Kjc u0 u → KjE u0 (S.1 u a0)) (hS1 : ∀ (u : MS) a0, Kjc u0 u → KjE u0 (S.2 u a0)) (hG0 : ∀ (u : MS) a0 a1 a2 a3 a4 a5 a6, Kjc u0 u → KjE u0 (G u a0 a1 a2 a3 a4 a5 a6)) : KjE u0 (fb_M_rowPattern_15 N S G u v1 v2 t0) := by
  unfold fb_M_rowPattern_15
  repeat' (first | with_reducible assumption | with_reducible refine Kj_br ?_ ?_ | with_reducible refine Kj_bnd ?_ (fun _ _ _ => ?_) | with_reducible refine Kj_ck ?_ | with_reducible refine Kj_ltm ?_ (fun _ _ => ?_) | with_reducible refine Kj_some ?_ | with_reducible refine Kj_bo (fun _ => ?_) | with_reducible refine Kj_T ?_ (fun _ _ _ => ?_) | with_reducible refine Kj_H ?_ (fun _ _ _ => ?_) (fun _ _ => ?_) | with_reducible exact yj_fb_M_rowPattern_27 (by assumption) hS0 hS1 hG0 | with_reducible exact hS0 _ _ (by assumption) | with_reducible exact hS1 _ _ (by assumption) | with_reducible exact hG0 _ _ _ _ _ _ _ _ (by assumption) | with_reducible refine Kj_ltv (fun _ => ?_) | with_reducible refine Kj_I ?_ (by decide) | with_reducible refine Kj_A ?_ (by decide) | with_reducible refine Kj_J ?_ | with_reducible refine Kj_L ?_)
theorem yj_fb_M_rowPattern_0 {S : SG_M_rowPattern} {G : (MS → Int32 → Int32 → Int32 → Int32 → Int32 → Int32 → Int32 → Option (MS × Int32))} {v1 : Int32} (h : Kjc u0 u) (hS0 : ∀ (u : MS) a0, Kjc u0 u → KjE u0 (S.1 u a0)) (hS1 : ∀ (u : MS) a0, Kjc u0 u → KjE u0 (S.2 u a0)) (hG0 : ∀ (u : MS) a0 a1 a2 a3 a4 a5 a6, Kjc u0 u → KjE u0 (G u a0 a1 a2 a3 a4 a5 a6)) : KjE u0 (fb_M_rowPattern_0 N S G u v1) := by
  unfold fb_M_rowPattern_0
  repeat' (first | with_reducible assumption | with_reducible refine Kj_br ?_ ?_ | with_reducible refine Kj_bnd ?_ (fun _ _ _ => ?_) | with_reducible refine Kj_ck ?_ | with_reducible refine Kj_ltm ?_ (fun _ _ => ?_) | with_reducible refine Kj_some ?_ | with_reducible refine Kj_bo (fun _ => ?_) | with_reducible refine Kj_T ?_ (fun _ _ _ => ?_) | with_reducible refine Kj_H ?_ (fun _ _ _ => ?_) (fun _ _ => ?_) | with_reducible exact yj_fb_M_rowPattern_15 (by assumption) hS0 hS1 hG0 | with_reducible exact yj_fm_M_isSign (by assumption) | with_reducible exact hS0 _ _ (by assumption) | with_reducible exact hS1 _ _ (by assumption) | with_reducible exact hG0 _ _ _ _ _ _ _ _ (by assumption) | with_reducible refine Kj_ltv (fun _ => ?_) | with_reducible refine Kj_I ?_ (by decide) | with_reducible refine Kj_A ?_ (by decide) | with_reducible refine Kj_J ?_ | with_reducible refine Kj_L ?_)
theorem yj_gg_M_rowPattern {S : SG_M_rowPattern} (hS0 : ∀ (u : MS) a0, Kjc u0 u → KjE u0 (S.1 u a0)) (hS1 : ∀ (u : MS) a0, Kjc u0 u → KjE u0 (S.2 u a0)) (n : Nat) : (∀ (u : MS) a0 a1 a2 a3 a4 a5 a6, Kjc u0 u → KjE u0 ((gg_M_rowPattern N S n) u a0 a1 a2 a3 a4 a5 a6)) := by
  induction n with
  | zero => exact fun _ _ _ _ _ _ _ _ _ => Kj_none
  | succ n ih => exact fun _ _ _ _ _ _ _ _ h => yj_fb_M_rowPattern_66 (N := N) h hS0 hS1 ih
theorem yj_fm_M_rowPattern {S : SG_M_rowPattern} {v1 : Int32} (h : Kjc u0 u) (hS0 : ∀ (u : MS) a0, Kjc u0 u → KjE u0 (S.1 u a0)) (hS1 : ∀ (u : MS) a0, Kjc u0 u → KjE u0 (S.2 u a0)) : KjE u0 (fm_M_rowPattern N S u v1) := by
  unfold fm_M_rowPattern
  exact yj_fb_M_rowPattern_0 h hS0 hS1 ((yj_gg_M_rowPattern (N := N) hS0 hS1 N))
theorem yj_fb_M_patternAt_388 {S : SG_M_rowPattern} {G : Unit} {v4 : Int32} (h : Kjc u0 u) (hS0 : ∀ (u : MS) a0, Kjc u0 u → KjE u0 (S.1 u a0)) (hS1 : ∀ (u : MS) a0, Kjc u0 u → KjE u0 (S.2 u a0)) : KjE u0 (fb_M_patternAt_388 N S G u v4) := by
  unfold fb_M_patternAt_388
  repeat' (first | with_reducible assumption | with_reducible refine Kj_br ?_ ?_ | with_reducible refine Kj_bnd ?_ (fun _ _ _ => ?_) | with_reducible refine Kj_ck ?_ | with_reducible refine Kj_ltm ?_ (fun _ _ => ?_) | with_reducible refine Kj_some ?_ | with_reducible refine Kj_bo (fun _ => ?_) | with_reducible refine Kj_T ?_ (fun _ _ _ => ?_) | with_reducible refine Kj_H ?_ (fun _ _ _ => ?_) (fun _ _ => ?_) | with_reducible exact hS0 _ _ (by assumption) | with_reducible exact hS1 _ _ (by assumption) | with_reducible refine Kj_ltv (fun _ => ?_) | with_reducible refine Kj_I ?_ (by decide) | with_reducible refine Kj_A ?_ (by decide) | with_reducible refine Kj_J ?_ | with_reducible refine Kj_L ?_)
theorem yj_fb_M_patternAt_239 {S : SG_M_rowPattern} {G : Unit} {v4 : Int32} {t0 : Nat} {t1 : Int32} {t2 : Int32} {t3 : Int32} (h : Kjc u0 u) (hS0 : ∀ (u : MS) a0, Kjc u0 u → KjE u0 (S.1 u a0)) (hS1 : ∀ (u : MS) a0, Kjc u0 u → KjE u0 (S.2 u a0)) : KjE u0 (fb_M_patternAt_239 N S G u v4 t0 t1 t2 t3) := by
  unfold fb_M_patternAt_239
  repeat' (first | with_reducible assumption | with_reducible refine Kj_br ?_ ?_ | with_reducible refine Kj_bnd ?_ (fun _ _ _ => ?_) | with_reducible refine Kj_ck ?_ | with_reducible refine Kj_ltm ?_ (fun _ _ => ?_) | with_reducible refine Kj_some ?_ | with_reducible refine Kj_bo (fun _ => ?_) | with_reducible refine Kj_T ?_ (fun _ _ _ => ?_) | with_reducible refine Kj_H ?_ (fun _ _ _ => ?_) (fun _ _ => ?_) | with_reducible exact yj_fb_M_patternAt_388 (by assumption) hS0 hS1 | with_reducible exact yj_fm_M_term (by assumption) | with_reducible exact hS0 _ _ (by assumption) | with_reducible exact hS1 _ _ (by assumption) | with_reducible refine Kj_ltv (fun _ => ?_) | with_reducible refine Kj_I ?_ (by decide) | with_reducible refine Kj_A ?_ (by decide) | with_reducible refine Kj_J ?_ | with_reducible refine Kj_L ?_)
theorem yj_fb_M_patternAt_199 {S : SG_M_rowPattern} {G : Unit} {v2 : Int32} (h : Kjc u0 u) (hS0 : ∀ (u : MS) a0, Kjc u0 u → KjE u0 (S.1 u a0)) (hS1 : ∀ (u : MS) a0, Kjc u0 u → KjE u0 (S.2 u a0)) : KjE u0 (fb_M_patternAt_199 N S G u v2) := by
  unfold fb_M_patternAt_199
  repeat' (first | with_reducible assumption | with_reducible refine Kj_br ?_ ?_ | with_reducible refine Kj_bnd ?_ (fun _ _ _ => ?_) | with_reducible refine Kj_ck ?_ | with_reducible refine Kj_ltm ?_ (fun _ _ => ?_) | with_reducible refine Kj_some ?_ | with_reducible refine Kj_bo (fun _ => ?_) | with_reducible refine Kj_T ?_ (fun _ _ _ => ?_) | with_reducible refine Kj_H ?_ (fun _ _ _ => ?_) (fun _ _ => ?_) | with_reducible exact yj_fb_M_patternAt_239 (by assumption) hS0 hS1 | with_reducible exact yj_fm_M_pattern (by assumption) | with_reducible exact hS0 _ _ (by assumption) | with_reducible exact hS1 _ _ (by assumption) | with_reducible refine Kj_ltv (fun _ => ?_) | with_reducible refine Kj_I ?_ (by decide) | with_reducible refine Kj_A ?_ (by decide) | with_reducible refine Kj_J ?_ | with_reducible refine Kj_L ?_)
theorem yj_fb_M_patternAt_178 {S : SG_M_rowPattern} {G : Unit} {v2 : Int32} {t1 : Int32} (h : Kjc u0 u) (hS0 : ∀ (u : MS) a0, Kjc u0 u → KjE u0 (S.1 u a0)) (hS1 : ∀ (u : MS) a0, Kjc u0 u → KjE u0 (S.2 u a0)) : KjE u0 (fb_M_patternAt_178 N S G u v2 t1) := by
  unfold fb_M_patternAt_178
  repeat' (first | with_reducible assumption | with_reducible refine Kj_br ?_ ?_ | with_reducible refine Kj_bnd ?_ (fun _ _ _ => ?_) | with_reducible refine Kj_ck ?_ | with_reducible refine Kj_ltm ?_ (fun _ _ => ?_) | with_reducible refine Kj_some ?_ | with_reducible refine Kj_bo (fun _ => ?_) | with_reducible refine Kj_T ?_ (fun _ _ _ => ?_) | with_reducible refine Kj_H ?_ (fun _ _ _ => ?_) (fun _ _ => ?_) | with_reducible exact yj_fb_M_patternAt_199 (by assumption) hS0 hS1 | with_reducible exact yj_fm_M_wrong (by assumption) | with_reducible exact hS0 _ _ (by assumption) | with_reducible exact hS1 _ _ (by assumption) | with_reducible refine Kj_ltv (fun _ => ?_) | with_reducible refine Kj_I ?_ (by decide) | with_reducible refine Kj_A ?_ (by decide) | with_reducible refine Kj_J ?_ | with_reducible refine Kj_L ?_)
theorem yj_fb_M_patternAt_160 {S : SG_M_rowPattern} {G : Unit} {v2 : Int32} (h : Kjc u0 u) (hS0 : ∀ (u : MS) a0, Kjc u0 u → KjE u0 (S.1 u a0)) (hS1 : ∀ (u : MS) a0, Kjc u0 u → KjE u0 (S.2 u a0)) : KjE u0 (fb_M_patternAt_160 N S G u v2) := by
  unfold fb_M_patternAt_160
  repeat' (first | with_reducible assumption | with_reducible refine Kj_br ?_ ?_ | with_reducible refine Kj_bnd ?_ (fun _ _ _ => ?_) | with_reducible refine Kj_ck ?_ | with_reducible refine Kj_ltm ?_ (fun _ _ => ?_) | with_reducible refine Kj_some ?_ | with_reducible refine Kj_bo (fun _ => ?_) | with_reducible refine Kj_T ?_ (fun _ _ _ => ?_) | with_reducible refine Kj_H ?_ (fun _ _ _ => ?_) (fun _ _ => ?_) | with_reducible exact yj_fb_M_patternAt_178 (by assumption) hS0 hS1 | with_reducible exact hS0 _ _ (by assumption) | with_reducible exact hS1 _ _ (by assumption) | with_reducible refine Kj_ltv (fun _ => ?_) | with_reducible refine Kj_I ?_ (by decide) | with_reducible refine Kj_A ?_ (by decide) | with_reducible refine Kj_J ?_ | with_reducible refine Kj_L ?_)
theorem yj_fb_M_patternAt_101 {S : SG_M_rowPattern} {G : Unit} {v1 : Int32} {v2 : Int32} {t0 : Int32} (h : Kjc u0 u) (hS0 : ∀ (u : MS) a0, Kjc u0 u → KjE u0 (S.1 u a0)) (hS1 : ∀ (u : MS) a0, Kjc u0 u → KjE u0 (S.2 u a0)) : KjE u0 (fb_M_patternAt_101 N S G u v1 v2 t0) := by
  unfold fb_M_patternAt_101
  repeat' (first | with_reducible assumption | with_reducible refine Kj_br ?_ ?_ | with_reducible refine Kj_bnd ?_ (fun _ _ _ => ?_) | with_reducible refine Kj_ck ?_ | with_reducible refine Kj_ltm ?_ (fun _ _ => ?_) | with_reducible refine Kj_some ?_ | with_reducible refine Kj_bo (fun _ => ?_) | with_reducible refine Kj_T ?_ (fun _ _ _ => ?_) | with_reducible refine Kj_H ?_ (fun _ _ _ => ?_) (fun _ _ => ?_) | with_reducible exact yj_fb_M_patternAt_160 (by assumption) hS0 hS1 | with_reducible exact yj_fb_M_patternAt_388 (by assumption) hS0 hS1 | with_reducible exact yj_fm_M_namePattern (by assumption) | with_reducible exact yj_fm_M_needSign (by assumption) | with_reducible exact yj_fm_M_takeSign (by assumption) | with_reducible exact yj_fm_M_pattern (by assumption) | with_reducible exact yj_fm_M_opens (by assumption) | with_reducible exact yj_fm_M_wrong (by assumption) | with_reducible exact yj_fm_M_term (by assumption) | with_reducible exact hS0 _ _ (by assumption) | with_reducible exact hS1 _ _ (by assumption) | with_reducible refine Kj_ltv (fun _ => ?_) | with_reducible refine Kj_I ?_ (by decide) | with_reducible refine Kj_A ?_ (by decide) | with_reducible refine Kj_J ?_ | with_reducible refine Kj_L ?_)
theorem yj_fb_M_patternAt_96 {S : SG_M_rowPattern} {G : Unit} {v1 : Int32} {v2 : Int32} (h : Kjc u0 u) (hS0 : ∀ (u : MS) a0, Kjc u0 u → KjE u0 (S.1 u a0)) (hS1 : ∀ (u : MS) a0, Kjc u0 u → KjE u0 (S.2 u a0)) : KjE u0 (fb_M_patternAt_96 N S G u v1 v2) := by
  unfold fb_M_patternAt_96
  repeat' (first | with_reducible assumption | with_reducible refine Kj_br ?_ ?_ | with_reducible refine Kj_bnd ?_ (fun _ _ _ => ?_) | with_reducible refine Kj_ck ?_ | with_reducible refine Kj_ltm ?_ (fun _ _ => ?_) | with_reducible refine Kj_some ?_ | with_reducible refine Kj_bo (fun _ => ?_) | with_reducible refine Kj_T ?_ (fun _ _ _ => ?_) | with_reducible refine Kj_H ?_ (fun _ _ _ => ?_) (fun _ _ => ?_) | with_reducible exact yj_fb_M_patternAt_101 (by assumption) hS0 hS1 | with_reducible exact hS0 _ _ (by assumption) | with_reducible exact hS1 _ _ (by assumption) | with_reducible refine Kj_ltv (fun _ => ?_) | with_reducible refine Kj_I ?_ (by decide) | with_reducible refine Kj_A ?_ (by decide) | with_reducible refine Kj_J ?_ | with_reducible refine Kj_L ?_)
theorem yj_fb_M_patternAt_0 {S : SG_M_rowPattern} {G : Unit} {v1 : Int32} (h : Kjc u0 u) (hS0 : ∀ (u : MS) a0, Kjc u0 u → KjE u0 (S.1 u a0)) (hS1 : ∀ (u : MS) a0, Kjc u0 u → KjE u0 (S.2 u a0)) : KjE u0 (fb_M_patternAt_0 N S G u v1) := by
  unfold fb_M_patternAt_0
  repeat' (first | with_reducible assumption | with_reducible refine Kj_br ?_ ?_ | with_reducible refine Kj_bnd ?_ (fun _ _ _ => ?_) | with_reducible refine Kj_ck ?_ | with_reducible refine Kj_ltm ?_ (fun _ _ => ?_) | with_reducible refine Kj_some ?_ | with_reducible refine Kj_bo (fun _ => ?_) | with_reducible refine Kj_T ?_ (fun _ _ _ => ?_) | with_reducible refine Kj_H ?_ (fun _ _ _ => ?_) (fun _ _ => ?_) | with_reducible exact yj_fb_M_patternAt_101 (by assumption) hS0 hS1 | with_reducible exact yj_fb_M_patternAt_96 (by assumption) hS0 hS1 | with_reducible exact yj_fm_M_isSign (by assumption) | with_reducible exact hS0 _ _ (by assumption) | with_reducible exact hS1 _ _ (by assumption) | with_reducible refine Kj_ltv (fun _ => ?_) | with_reducible refine Kj_I ?_ (by decide) | with_reducible refine Kj_A ?_ (by decide) | with_reducible refine Kj_J ?_ | with_reducible refine Kj_L ?_)
theorem yj_fm_M_patternAt {S : SG_M_rowPattern} {v1 : Int32} (h : Kjc u0 u) (hS0 : ∀ (u : MS) a0, Kjc u0 u → KjE u0 (S.1 u a0)) (hS1 : ∀ (u : MS) a0, Kjc u0 u → KjE u0 (S.2 u a0)) : KjE u0 (fm_M_patternAt N S u v1) := by
  unfold fm_M_patternAt
  exact yj_fb_M_patternAt_0 h hS0 hS1
theorem yj_rc_M_rowPattern  (n : Nat) : (∀ (u : MS) a0, Kjc u0 u → KjE u0 ((rc_M_rowPattern N n).1 u a0)) ∧ (∀ (u : MS) a0, Kjc u0 u → KjE u0 ((rc_M_rowPattern N n).2 u a0)) := by
  induction n with
  | zero => exact ⟨fun _ _ _ => Kj_none, fun _ _ _ => Kj_none⟩
  | succ n ih => exact ⟨fun _ _ h => yj_fm_M_rowPattern (N := N) h ih.1 ih.2, fun _ _ h => yj_fm_M_patternAt (N := N) h ih.1 ih.2⟩
theorem yj_fr_M_patternAt {v1 : Int32} (h : Kjc u0 u) : KjE u0 (fr_M_patternAt N u v1) := by
  unfold fr_M_patternAt
  exact (yj_rc_M_rowPattern (N := N) 60).2 _ _ h
end
end
section
set_option maxRecDepth 100000
def MID (w x : MS) (a b L : Nat) : Prop := ((w.1 75 = I (a : Nat) ∧ w.1 77 = I (b : Nat) ∧ a + 8 ≤ 400 ∧ b + 54 ≤ 3300) ∧ x.1 75 = I ((a + 8 : Nat) : Int) ∧ x.1 77 = I ((b + 54 : Nat) : Int)) ∧ (∀ k, k ∈ [5, 9, 10, 11, 14, 17, 20, 65, 73, 83] → x.1 k = w.1 k) ∧ (∀ k, k < 23 → x.2.2.1 k = w.2.2.1 k) ∧ (∀ j, j < a → x.2.2.1 74 j = w.2.2.1 74 j) ∧ (∀ j, j < b → x.2.2.1 76 j = w.2.2.1 76 j) ∧ (∀ k, 79 ≤ k → k ≤ 82 → ∀ j, j < (w.1 83).toNatClampNeg → x.2.2.1 k j = w.2.2.1 k j) ∧ SVC w x a b L
def rsB : SCT → SCT → SCT
  | e :: _, e2 :: t2 => (e.1, e2.2.1, e2.2.2) :: t2
  | _, _ => []
section
variable {m0 w0 m w v u m2 m3 w2 x y : MS} {K nm Nk W W2 WA WB : Nat → Nat} {T p n N q X Y X1 X2 XA n2 lo p2 p4 ν a b L k d o : Nat} {sc sc1 sc2 sc3 sc4 sc5 t t2 t3 t4 t5 : SCT} {e e2 e3 e4 e5 : List Nat × List Nat × Nat} {gd Rf Zf : Bool} {BC : MS → Prop} {g : Nat → Int32} {i : Int32}
theorem SVC_k (h : SVC w x a b L) (hL : L ≤ 27) (h1 : ∀ j, j < a + 8 → y.2.2.1 74 j = x.2.2.1 74 j) (h2 : ∀ j, j < b + 54 → y.2.2.1 76 j = x.2.2.1 76 j) : SVC w y a b L := by
  obtain ⟨a1, a2, a3, a4⟩ := h
  refine ⟨by rw [h1 a (by omega)]; exact a1, by rw [h1 (a + 6) (by omega)]; exact a2, by rw [h1 (a + 7) (by omega)]; exact a3, fun i hi => ?_⟩
  rw [h2 (b + 2 * i) (by omega), h2 (b + 2 * i + 1) (by omega)]
  exact a4 i hi
theorem MID_sv (h : SVG w v L) : ∃ a b, MID w v a b L := by
  obtain ⟨a, b, h1, h2, h3, h4, h5, h6, h7⟩ := h
  refine ⟨a, b, ⟨h1, h2⟩, fun k hk => h3 k (by rintro rfl; revert hk; decide) (by rintro rfl; revert hk; decide), fun k hk => h4 k (by omega) (by omega), h5, h6, fun k k1 k2 j hj => by rw [h4 k (by omega) (by omega)], h7⟩
theorem MID_e (h : MID w x a b L) (hL : L ≤ 27) (k : WFE x y) : MID w y a b L := by
  obtain ⟨⟨h1, h2, h3⟩, h4, h5, h6, h7, h8, h9⟩ := h
  obtain ⟨k1, k2, k3, k4, k5⟩ := k
  have n75 : (x.1 75).toNatClampNeg = a + 8 := by rw [h2]; exact tnI (n := a + 8) rfl (by omega)
  have n77 : (x.1 77).toNatClampNeg = b + 54 := by rw [h3]; exact tnI (n := b + 54) rfl (by omega)
  rw [n75] at k3
  rw [n77] at k4
  refine ⟨⟨h1, by rw [k1 75 (by decide)]; exact h2, by rw [k1 77 (by decide)]; exact h3⟩, fun k hk => ?_, fun k hk => by rw [k2 k hk]; exact h5 k hk, fun j hj => by rw [k3 j (by omega)]; exact h6 j hj, fun j hj => by rw [k4 j (by omega)]; exact h7 j hj, fun k i1 i2 j hj => ?_, SVC_k h9 hL k3 k4⟩
  · rw [k1 k (by simp only [List.mem_cons, List.not_mem_nil, or_false] at hk ⊢; omega)]; exact h4 k hk
  · rw [k5 k i1 i2 j (by rw [h4 83 (by decide)]; exact hj)]; exact h8 k i1 i2 j hj
theorem MID_g (h : MID w x a b L) (hi : ∀ k, k ∈ [5, 9, 10, 11, 14, 17, 20, 65, 73, 75, 77, 83] → y.1 k = x.1 k) (hr : ∀ k, k < 23 ∨ k = 74 ∨ k = 76 ∨ (79 ≤ k ∧ k ≤ 82) → y.2.2.1 k = x.2.2.1 k) (hL : L ≤ 27) : MID w y a b L := by
  obtain ⟨⟨h1, h2, h3⟩, h4, h5, h6, h7, h8, h9⟩ := h
  refine ⟨⟨h1, by rw [hi 75 (by decide)]; exact h2, by rw [hi 77 (by decide)]; exact h3⟩, fun k hk => ?_, fun k hk => by rw [hr k (by omega)]; exact h5 k hk, fun j hj => by rw [hr 74 (by omega)]; exact h6 j hj, fun j hj => by rw [hr 76 (by omega)]; exact h7 j hj, fun k i1 i2 j hj => by rw [hr k (by omega)]; exact h8 k i1 i2 j hj, SVC_k h9 hL (fun j _ => by rw [hr 74 (by omega)]) (fun j _ => by rw [hr 76 (by omega)])⟩
  rw [hi k (by simp only [List.mem_cons, List.not_mem_nil, or_false] at hk ⊢; omega)]; exact h4 k hk
theorem MID_tb (h : MID w x a b L) (hL : L ≤ 27) (k : TBK w x y n) : MID w y a b L := MID_g h (fun j hj => k.2.1 j (by simp only [List.mem_cons, List.not_mem_nil, or_false] at hj ⊢; omega)) (fun j hj => k.2.2.1 j (by omega) (by omega)) hL
theorem MID_j (h : MID w x a b L) (hL : L ≤ 27) (k : Kjc x y) : MID w y a b L := MID_g h (fun j hj => k.1 j (by simp only [List.mem_cons, List.not_mem_nil, or_false] at hj ⊢; omega)) (fun j hj => k.2 j (by omega)) hL
theorem MID_I (h : MID w x a b L) (hL : L ≤ 27) (hk : k ∉ [5, 9, 10, 11, 14, 17, 20, 65, 73, 75, 77, 83]) : MID w (upI x k i) a b L := MID_g h (fun j hj => upI_ne (by rintro rfl; exact hk hj)) (fun _ _ => rfl) hL
theorem MID_A (h : MID w x a b L) (hL : L ≤ 27) (hk : ¬ (k < 23 ∨ k = 74 ∨ k = 76 ∨ (79 ≤ k ∧ k ≤ 82))) : MID w (upA x k g) a b L := MID_g h (fun _ _ => rfl) (fun j hj => upA_no (by rintro rfl; exact hk hj)) hL
theorem MID_s (h : MID w x a b L) (hL : L ≤ 27) (k : SMS x y) : MID w y a b L := MID_g h (fun j hj => k.1 j (by unfold SMI; simp only [List.mem_cons, List.not_mem_nil, or_false] at hj ⊢; omega)) (fun j hj => k.2.1 j (by unfold SMX; omega)) hL
theorem MID_kt (h : MID w x a b L) (k : Ktc w0 w) : Ktc w0 x := Kt_tr k ⟨fun j hj => h.2.1 j (by unfold TIN at hj; simp only [List.mem_cons, List.not_mem_nil, or_false] at hj ⊢; omega), fun j hj => h.2.2.1 j (by unfold TRW at hj; simp only [List.mem_cons, List.not_mem_nil, or_false] at hj; omega)⟩
def fgt (x : MS) : MS := upI (upI x 75 (x.1 75 - 8)) 77 (x.1 77 - 54)
theorem fg_e : fm_M_forgetSaved N x = some (fgt x, ()) := rfl
theorem fgt_i (h1 : k ≠ 75) (h2 : k ≠ 77) : (fgt x).1 k = x.1 k := by
  unfold fgt
  rw [upI_ne h2, upI_ne h1]
theorem MID_fg (h : MID w x a b L) (h67 : x.1 67 = w.1 67) (h70 : x.1 70 = w.1 70) : WFE w (fgt x) := by
  obtain ⟨⟨h1, h2, h3⟩, h4, h5, h6, h7, h8, h9⟩ := h
  have n75 : (w.1 75).toNatClampNeg = a := by rw [h1.1]; exact tnI (n := a) rfl (by omega)
  have n77 : (w.1 77).toNatClampNeg = b := by rw [h1.2.1]; exact tnI (n := b) rfl (by omega)
  refine ⟨fun k hk => ?_, h5, fun j hj => h6 j (by omega), fun j hj => h7 j (by omega), h8⟩
  by_cases z : k = 75
  · subst z
    unfold fgt
    rw [upI_ne (by decide), upI_at, h2, h1.1]
    exact (I_mn (a := a + 8) (c := 8) (by omega) rfl).trans (by congr 2)
  by_cases z2 : k = 77
  · subst z2
    unfold fgt
    rw [upI_at, h3, h1.2.1]
    exact (I_mn (a := b + 54) (c := 54) (by omega) rfl).trans (by congr 2)
  rw [fgt_i z z2]
  by_cases z3 : k = 67
  · subst z3; exact h67
  by_cases z4 : k = 70
  · subst z4; exact h70
  exact h4 k (by simp only [List.mem_cons, List.not_mem_nil, or_false] at hk ⊢; omega)
theorem fgt_fl (h : FLW x) : FLW (fgt x) := by
  show (fgt x).1 67 ≠ 0
  rw [fgt_i (by decide) (by decide)]
  exact h
theorem RNs_fg (h : RNs x sc) : RNs (fgt x) sc := RNs_e h (fgt_i (by decide) (by decide)) (fun _ _ _ => rfl)
theorem HLx_B : ∀ {t t3 : SCT} {x : Nat}, HLx x t3 → t = t3 → HLx x t := fun h e => e ▸ h
theorem RNs_B (ha : RNs w (e :: t)) (hb : RNs y (e3 :: t3)) (hx : SCX (e :: t) (e3 :: t3) X) (h60 : ∀ i, i < t.length + 1 → x.2.2.1 60 i = w.2.2.1 60 i) (h63 : ∀ i, i < t.length + 1 → x.2.2.1 63 i = y.2.2.1 63 i) (h59 : x.2.2.1 59 = y.2.2.1 59) (h61 : x.2.2.1 61 = y.2.2.1 61) (h64 : x.2.2.1 64 = y.2.2.1 64) (h65 : x.1 65 = w.1 65) : RNs x ((e.1, e3.2.1, e3.2.2) :: t3) := by
  obtain ⟨a1, a2, a3, a4⟩ := ha
  obtain ⟨b1, b2, b3, b4⟩ := hb
  have ln : t3.length = t.length := (BDs_len hx.2.2).1
  refine ⟨by rw [h65, a1]; show I (((t.length + 1 - 1 : Nat)) : Int) = I ((t3.length + 1 - 1 : Nat) : Int); rw [ln], by show 1 ≤ t3.length + 1 ∧ t3.length + 1 ≤ 27; exact b2, ⟨?_, ?_⟩, ?_⟩
  · obtain ⟨c1, c2, c3, c4, c5⟩ := b3.1
    rw [ln] at c2 c3 c4 c5 ⊢
    refine ⟨by rw [h60 _ (by omega)]; exact a3.1.1, fun k z hz => ?_, by rw [h63 _ (by omega)]; exact c3, by rw [h61]; exact c4, by rw [h64]; exact c5⟩
    rw [h59]; exact c2 k z (pre_get hx.1 hz)
  · have : ∀ {s s3 : SCT}, RNl w s → RNl y s3 → BDs s s3 → s.length ≤ t.length → RNl x s3 := by
      intro s
      induction s with
      | nil =>
        intro s3 _ _ hbd _
        cases s3 with
        | nil => trivial
        | cons _ _ => exact hbd.elim
      | cons f s ih =>
        intro s3 r1 r2 hbd hl
        cases s3 with
        | nil => exact hbd.elim
        | cons f3 s3 =>
          have hl : s.length + 1 ≤ t.length := hl
          have l3 := (BDs_len hbd.2).1
          refine ⟨?_, ih r1.2 r2.2 hbd.2 (by omega)⟩
          obtain ⟨c1, c2, c3, c4, c5⟩ := r2.1
          rw [l3] at c2 c3 c4 c5 ⊢
          refine ⟨by rw [h60 _ (by omega), hbd.1.1]; exact r1.1.1, by rw [h59]; exact c2, by rw [h63 _ (by omega)]; exact c3, by rw [h61]; exact c4, by rw [h64]; exact c5⟩
    exact this a3.2 b3.2 hx.2.2 (Nat.le_refl _)
  · obtain ⟨⟨c1, c2, c3, c4, c5, c6, c7⟩, c8⟩ := b4
    obtain ⟨⟨d1, d2, d3, d4, d5, d6, d7⟩, d8⟩ := a4
    refine ⟨⟨d1, d2, c3, ?_, c5, c6, c7⟩, c8⟩
    show e.1.length ≤ e3.2.2
    rw [hx.2.1]; omega
theorem HDs_mat (hq : p ≤ q ∧ q < p4) (k3 : K q ≠ 3) : ∀ {s s3 s4 s5 : SCT}, HDs Nk K WA p q s s3 → HDs Nk K WB (q + 1) p4 s3 s4 → HDs Nk K W2 p q s4 s5 → (∀ j, p ≤ j → j < q → K j = 3 → WA j + 1 < s.length → W2 j ≤ WA j) → HDs Nk K (mrg q W2 WB) p p4 s s5
  | [], [], [], [], h, k, l, _ => fun j h1 h2 h3 => by
    by_cases z : j < q
    · rw [mrg_l z]; exact l j h1 z h3
    · rw [mrg_r (by omega)]
      by_cases z2 : j = q
      · subst z2; exact absurd h3 k3
      · exact k j (by omega) h2 h3
  | e :: t, e3 :: t3, e4 :: t4, e5 :: t5, h, k, l, hw => by
    have l1 := HDs_len h.2
    have l2 := HDs_len k.2
    refine ⟨⟨fun x hx => ?_, fun h60 j h1 h2 h3 h4 => ?_, (h.1.2.2.trans k.1.2.2).trans l.1.2.2⟩, HDs_mat hq k3 h.2 k.2 l.2 (fun j a b c d => hw j a b c (by show _ < t.length + 1; omega))⟩
    · rcases l.1.1 x hx with a | ⟨j, a1, a2, a3, a4⟩
      · rcases k.1.1 x a with b | ⟨j, a1, a2, a3, a4⟩
        · rcases h.1.1 x b with c | ⟨j, a1, a2, a3, a4⟩
          · exact Or.inl c
          · refine Or.inr ⟨j, ⟨a1.1, by omega⟩, a2, a3, ?_⟩
            rw [mrg_l a1.2]
            have := hw j a1.1 a1.2 a2 (by show _ < t.length + 1; omega)
            omega
        · refine Or.inr ⟨j, ⟨by omega, a1.2⟩, a2, a3, ?_⟩
          rw [mrg_r (by omega)]; omega
      · refine Or.inr ⟨j, ⟨a1.1, by omega⟩, a2, a3, ?_⟩
        rw [mrg_l a1.2]; omega
    · by_cases z : j < q
      · rw [mrg_l z] at h4
        exact l.1.2.1 h60 j h1 z h3 (by omega)
      · rw [mrg_r (by omega)] at h4
        by_cases z2 : j = q
        · subst z2; exact absurd h3 k3
        · have pl := l.1.2.2.length_le
          exact l.1.2.2.subset (k.1.2.1 (by omega) j (by omega) h2 h3 (by omega))
  | [], [], [], _ :: _, _, _, h, _ => h.elim
  | [], [], _ :: _, _, _, h, _, _ => h.elim
  | [], _ :: _, _, _, h, _, _, _ => h.elim
  | _ :: _, [], _, _, h, _, _, _ => h.elim
  | _ :: _, _ :: _, [], _, _, h, _, _ => h.elim
  | _ :: _, _ :: _, _ :: _, [], _, _, h, _ => h.elim
theorem HDs_B (h : HDs Nk K W p p2 (e :: t) sc2) (he : e2.2.1 = e.2.1) : HDs Nk K W p p2 (e2 :: t) sc2 := by
  cases sc2 with
  | nil => exact h.elim
  | cons e3 t3 => exact ⟨⟨by rw [he]; exact h.1.1, h.1.2.1, by rw [he]; exact h.1.2.2⟩, h.2⟩
theorem HDs_B2 (h : HDs Nk K W p p2 sc (e :: t)) (he : e2.2.1 = e.2.1) : HDs Nk K W p p2 sc (e2 :: t) := by
  cases sc with
  | nil => exact h.elim
  | cons e3 t3 => exact ⟨⟨by rw [he]; exact h.1.1, by rw [he]; exact h.1.2.1, by rw [he]; exact h.1.2.2⟩, h.2⟩
theorem nd_le2 : ∀ {a b : List Nat}, a.Nodup → (∀ x, x ∈ a → x ∈ b) → a.length ≤ b.length
  | [], _, _, _ => Nat.zero_le _
  | x :: a, b, h, hs => by
    have h2 := List.nodup_cons.mp h
    have hx := hs x List.mem_cons_self
    have := nd_le2 (a := a) (b := b.erase x) h2.2 (fun y hy => by
      have ne : y ≠ x := by rintro rfl; exact h2.1 hy
      exact (List.mem_erase_of_ne ne).mpr (hs y (List.mem_cons_of_mem _ hy)))
    have le := List.length_erase_of_mem hx
    have pos := List.length_pos_of_mem hx
    show a.length + 1 ≤ _
    omega
theorem mat_X (ok3 : e3.1.Nodup) (okl : e.1.length ≤ e.2.2) (hA : SCX (e :: t) (e3 :: t3) XA) (pA : PNM Nk K nm p q (e :: t) (e3 :: t3) XA) (hB : SCX ((e.1, e3.2.1, e3.2.2) :: t3) (e4 :: t4) X1) (sB : SNW X1 ((e.1, e3.2.1, e3.2.2) :: t3) (e4 :: t4)) (h2 : SCX (e4 :: t4) (e5 :: t5) X2) (p2' : PNM Nk K nm p q (e4 :: t4) (e5 :: t5) X2) : XA ≤ max e.2.2 (max X1 X2) := by
  have sub : ∀ x, x ∈ e3.1 → x ∈ e5.1 := fun x hx => by
    rcases pA.2.1 x hx with z | ⟨z, j, j1, j2, j3, j4⟩
    · exact h2.1.subset (hB.1.subset z)
    · have := p2'.2.2 j j1.1 j1.2 j2 (by rw [j3]; exact j4)
      rw [j3, fnb_cons, BDs_fnb h2.2.2, BDs_fnb hB.2.2, BDs_fnb hA.2.2] at this
      rw [fnb_cons] at z
      have z2 : fnb x t = false := by
        cases y : fnb x t with
        | false => rfl
        | true => rw [y, Bool.or_true] at z; cases z
      rw [z2, Bool.or_false, List.contains_iff_mem] at this
      exact this
  have le := nd_le2 ok3 sub
  have s2 := sB.2
  have s2 : e4.1.length ≤ max e.1.length X1 := s2
  rcases pA.1 with z | z
  · have z := z.1
    omega
  · rcases p2'.1 with y | y
    · rw [y.2] at le
      omega
    · omega
theorem mat_SCX (hA : SCX (e :: t) (e3 :: t3) XA) (hB : SCX ((e.1, e3.2.1, e3.2.2) :: t3) (e4 :: t4) X1) (h2 : SCX (e4 :: t4) (e5 :: t5) X2) (hX : XA ≤ max e.2.2 (max X1 X2)) : SCX (e :: t) (e5 :: t5) (max X1 X2) := by
  refine ⟨hB.1.trans h2.1, ?_, BDs_tr (BDs_tr hA.2.2 hB.2.2) h2.2.2⟩
  have a := hA.2.1
  have b : e4.2.2 = max e3.2.2 X1 := hB.2.1
  have c := h2.2.1
  omega
theorem lgZ_iff {g : Int32} : lgZ (e :: t) X Zf g = 0 ↔ Zf = false ∧ ¬ (0 < X ∧ 40 < max e.2.2 X) ∧ g = 0 := by
  show (if Zf then (1 : Int32) else (if 0 < X ∧ 40 < max e.2.2 X then 1 else g)) = 0 ↔ _
  cases Zf with
  | true => rw [if_pos rfl]; exact ⟨fun z => absurd z (by decide), fun z => Bool.noConfusion z.1⟩
  | false =>
    rw [if_neg (by decide)]
    by_cases h : 0 < X ∧ 40 < max e.2.2 X
    · rw [if_pos h]; exact ⟨fun z => absurd z (by decide), fun z => absurd h z.2.1⟩
    · rw [if_neg h]; exact ⟨fun z => ⟨rfl, h, z⟩, fun z => z.2.2⟩
theorem mat_lg {g0 g1 g2 g3 : Int32} (hA : SCX (e :: t) (e3 :: t3) XA) (hB : SCX ((e.1, e3.2.1, e3.2.2) :: t3) (e4 :: t4) X1) (hX : XA ≤ max e.2.2 (max X1 X2)) (a0 : g1 = 0 ↔ g0 = 0) (a1 : g2 = 0 ↔ lgZ ((e.1, e3.2.1, e3.2.2) :: t3) X1 Zf g1 = 0) (a2 : g3 = lgS (e4 :: t4) X2 g2) : g3 = 0 ↔ lgZ (e :: t) (max X1 X2) Zf g0 = 0 := by
  have e1 : g3 = lgZ (e4 :: t4) X2 false g2 := by rw [a2]; rfl
  rw [e1, lgZ_iff, a1, lgZ_iff, lgZ_iff, a0]
  have a := hA.2.1
  have b : e4.2.2 = max e3.2.2 X1 := hB.2.1
  show (false = false ∧ ¬ (0 < X2 ∧ 40 < max e4.2.2 X2) ∧ (Zf = false ∧ ¬ (0 < X1 ∧ 40 < max e3.2.2 X1) ∧ g0 = 0)) ↔ _
  constructor
  · rintro ⟨-, h1, h2, h3, h4⟩
    exact ⟨h2, by omega, h4⟩
  · rintro ⟨h1, h2, h3⟩
    exact ⟨rfl, by omega, h1, by omega, h3⟩
theorem CNl_n2 : ∀ {s s2 : SCT}, nms s2 = nms s → CNl m nm s → CNl m nm s2 ∧ tot s2 = tot s ∧ s2.length = s.length
  | [], [], _, _ => ⟨trivial, rfl, rfl⟩
  | [], _ :: _, h, _ => by cases h
  | _ :: _, [], h, _ => by cases h
  | e :: t, e2 :: t2, h, k => by
    have h : e2.1 :: nms t2 = e.1 :: nms t := h
    obtain ⟨h1, h2⟩ := List.cons.inj h
    obtain ⟨i1, i2, i3⟩ := CNl_n2 h2 k.2.2
    exact ⟨⟨by rw [i3, i2]; exact k.1, by rw [h1, i2]; exact k.2.1, i1⟩, by show tot t2 + e2.1.length = tot t + e.1.length; rw [i2, h1], by show t2.length + 1 = t.length + 1; rw [i3]⟩
theorem CPR_n2 {cm : Nat} (h : nms sc2 = nms sc) (k : CPR nm gd p p2 sc cm m) : CPR nm gd p p2 sc2 cm m ∧ sc2.length = sc.length := by
  obtain ⟨k1, ⟨c1, c2, c3, c4, c5⟩, k3, k4, k5, k6, k7⟩ := k
  obtain ⟨i1, i2, i3⟩ := CNl_n2 h c5
  exact ⟨⟨k1, ⟨by rw [i3]; exact c1, by rw [i3]; exact c2, by rw [i2]; exact c3, by rw [i2]; exact c4, i1⟩, by rw [i3]; exact k3, k4, k5, k6, by rw [i2]; exact k7⟩, i3⟩
theorem EXN_nm (h : nms sc1 = nms sc) (k : EXN N K nm gd m2 lo n2 ν p p2 sc1 sc2 X W Rf Zf BC) : EXN N K nm gd m2 lo n2 ν p p2 sc sc2 X W Rf Zf BC := fun d m3 cm last a b => by
  obtain ⟨b2, b3⟩ := CPR_n2 h b
  refine pk_mo (k d m3 cm last a b2) (fun v r z => ?_)
  unfold CPO at z ⊢
  rw [b3] at z
  exact z
theorem exn_ng {kd tok : Nat} {b c f : Int32} (hk : CMK kd) (hk1 : kd ≠ 17 ∧ kd ≠ 18) (hn : nod m2 ν = (I (kd : Nat), I (tok : Nat), b, c, f)) (htk : tok ≤ 4000) (hlo : lo < ν) (hν : ν ≤ n2) (hl : n2 ≤ 8015) : EXN N K nm true m2 lo n2 ν p p2 sc sc2 X W true Zf BC := by
  have := exn_cmp (N := N) (K := K) (nm := nm) (gd := true) (p := p) (p2 := p2) (sc := sc) (sc2 := sc2) (X := X) (W := W) (Rf := true) (Zf := Zf) (BC := BC) hk hk1 hn htk hlo hν hl (fun z => Bool.noConfusion z)
  exact this
end
end
section
set_option maxRecDepth 100000
def HBh (N : Nat) (m0 w0 : MS) (K : Nat → Nat) (T : Nat) (nm Nk : Nat → Nat) (d : Nat) : Prop := ∀ D, EXS N m0 w0 K T nm Nk 0 NC1 (fun m => (hrc_Pa_matched N D).2.2.2.2.2.2.2.2.2.2.2.2.2.2.1 m 0) ((rc_M_behind N d).1)
def HSi (N : Nat) (m0 w0 : MS) (K : Nat → Nat) (T : Nat) (nm Nk : Nat → Nat) (d : Nat) : Prop := ∀ D, EXS N m0 w0 K T nm Nk 1 NC1 (fun m => bTm ((hrc_Pa_matched N D).2.2.2.2.2.2.2.2.2.2.2.2.2.1 m) (fun u r => (hrc_Pa_matched N D).1 u r)) ((rc_M_behind N d).2.2.2.2.2.2.2.2.2.2.2.2.1)
section
variable {α : Type} {R : MS → α → MS → Int32 → Prop} {A : Option (MS × α)} {m0 w0 m w v u m2 m3 w2 x y z : MS} {K nm Nk W W2 WA WB : Nat → Nat} {T p n N q X Y X1 X2 XA n2 lo p2 p4 ν a b L L' k d o M : Nat} {sc sc1 sc2 sc3 sc4 sc5 t t2 t3 t4 t5 : SCT} {e e2 e3 e4 e5 : List Nat × List Nat × Nat} {gd Rf Zf : Bool} {BC : MS → Prop} {v1 v2 : Int32} {S : SG_M_behind} {NC : Nat → Prop}
theorem pp_map {f : MS → MS} {B : Option (MS × Int32)} {F : MS → Int32 → Option (MS × Int32)} (hF : ∀ u r, F u r = some (f u, r)) (h : PP (fun m z u r => R m z (f u) r) A B) : PP R A (bnd B F) := by
  intro m z w r e1 e2
  cases B with
  | none => cases e2
  | some B =>
    obtain ⟨w', r'⟩ := B
    have e2 : F w' r' = some (w, r) := e2
    rw [hF] at e2
    injection e2 with e2
    injection e2 with a1 a2
    rw [← a1, ← a2]
    exact h m z w' r' e1 rfl
theorem s97 {G : Unit} {r : Int32} : fb_M_simple_97 N S G u r = some (fgt u, r) := rfl
theorem mc1 (h65 : y.1 65 = I (L : Nat)) (hL : L ≤ 26) (k : ∀ (M : Nat) (s : MS), s.1 = y.1 → (∀ k, k ≠ 78 → s.2.2.1 k = y.2.2.1 k) → (∀ j, j < L + 1 → s.2.2.1 78 j = y.2.2.1 63 j) → PP R A (bnd (fm_M_takeBack N s) (fun u12 _ => (gg_M_matched N S M).2 u12 v1 v2 0))) : ∀ (M i : Nat) (s : MS), i ≤ L + 1 → s.1 = y.1 → (∀ k, k ≠ 78 → s.2.2.1 k = y.2.2.1 k) → (∀ j, j < i → s.2.2.1 78 j = y.2.2.1 63 j) → PP R A ((gg_M_matched N S M).1 s v1 v2 (I (i : Nat)))
  | 0, _, _, _, _, _, _ => pp_nr
  | M + 1, i, s, hi, e1, e2, e3 => by
    show PP R A (fb_M_matched_75 N S (gg_M_matched N S M) s v1 v2 (I (i : Nat)))
    unfold fb_M_matched_75
    rw [e1, h65, decide_eq_decide.mpr (I_lt (x := (L : Nat)) (y := (i : Nat)) (by omega) (by omega) (by omega) (by omega))]
    by_cases z : L < i
    · rw [decide_eq_true (by omega), br_tq]
      exact k M s e1 e2 (fun j hj => e3 j (by omega))
    · rw [decide_eq_false (by omega), br_fq, tnI (n := i) rfl (by omega), i_suc]
      refine r_ck (fun _ => r_ck (fun _ => r_lt ?_))
      refine mc1 h65 hL k M (i + 1) _ (by omega) e1 (fun k hk => ?_) (fun j hj => ?_)
      · rw [upA_no hk]; exact e2 k hk
      · rw [upA_at]
        by_cases y : j = i
        · subst y; rw [upd_at, e2 63 (by decide)]
        · rw [upd_no y]; exact e3 j (by omega)
theorem mc2 (h65 : y.1 65 = I (L : Nat)) (hL : L ≤ 26) (k : ∀ (M : Nat) (s : MS), s.1 = y.1 → (∀ k, k ≠ 63 → s.2.2.1 k = y.2.2.1 k) → (∀ j, j < L + 1 → s.2.2.1 63 j = y.2.2.1 78 j) → PP R A (br (decide (s.1 73 = 0)) (fb_M_matched_154 N S (gg_M_matched N S M) s v1 v2) (bnd (fm_M_rule N s 7 v2) (fun u10 _ => fb_M_matched_154 N S (gg_M_matched N S M) u10 v1 v2)))) : ∀ (M i : Nat) (s : MS), i ≤ L + 1 → s.1 = y.1 → (∀ k, k ≠ 63 → s.2.2.1 k = y.2.2.1 k) → (∀ j, j < i → s.2.2.1 63 j = y.2.2.1 78 j) → PP R A ((gg_M_matched N S M).2 s v1 v2 (I (i : Nat)))
  | 0, _, _, _, _, _, _ => pp_nr
  | M + 1, i, s, hi, e1, e2, e3 => by
    show PP R A (fb_M_matched_111 N S (gg_M_matched N S M) s v1 v2 (I (i : Nat)))
    unfold fb_M_matched_111
    have e65 : s.1 65 = I (L : Nat) := by rw [e1]; exact h65
    rw [e65, decide_eq_decide.mpr (I_lt (x := (L : Nat)) (y := (i : Nat)) (by omega) (by omega) (by omega) (by omega))]
    by_cases z : L < i
    · rw [decide_eq_true (by omega), br_tq]
      exact k M s e1 e2 (fun j hj => e3 j (by omega))
    · rw [decide_eq_false (by omega), br_fq, tnI (n := i) rfl (by omega), i_suc]
      refine r_ck (fun _ => r_ck (fun _ => r_lt ?_))
      refine mc2 h65 hL k M (i + 1) _ (by omega) e1 (fun k hk => ?_) (fun j hj => ?_)
      · rw [upA_no hk]; exact e2 k hk
      · rw [upA_at]
        by_cases y : j = i
        · subst y; rw [upd_at, e2 78 (by decide)]
        · rw [upd_no y]; exact e3 j (by omega)
theorem mat_tb (hR : RNs w (e :: t)) (md : MID w u a b (t.length + 1)) : PK (fun x (_ : Unit) => TBK w u x (t.length + 1) ∧ MID w x a b (t.length + 1)) (fm_M_takeBack N u) := by
  have hl : 1 ≤ t.length + 1 ∧ t.length + 1 ≤ 27 := hR.2.1
  refine pk_mo (tb_p (w := w) (L := t.length) (a := a) (b := b) ?_ (by omega) md.1.2.1 md.1.1.2.2.1 md.1.2.2 (by have := md.1.1.2.2.2; omega) md.2.2.2.2.2.2) (fun x _ h => ⟨h, MID_tb md hl.2 h⟩)
  rw [md.2.1 65 (by decide), hR.1]
  rfl
def p1s (x : MS) (p : Nat) : MS := upI (upI x 69 (I (p : Nat))) 70 (x.1 70 - 1)
theorem p1s_i (h : k ≠ 69) (h2 : k ≠ 70) : (p1s x p).1 k = x.1 k := by
  unfold p1s
  rw [upI_ne h2, upI_ne h]
theorem p1s_w (c : CTZ m0 w0 K T nm Nk) (hk : Ktc w0 x) (hp : p ≤ T) : WP (p1s x p) K T p := by
  refine ⟨⟨c.2.1.1, fun j hj => ?_, fun j hj => ?_⟩, ?_, hp⟩
  · show x.2.2.1 6 j = _
    rw [hk.2 6 (by decide)]; exact c.2.1.2.1 j hj
  · show 5 ≤ K j → x.2.2.1 7 j = _
    rw [hk.2 7 (by decide)]; exact c.2.1.2.2 j hj
  · unfold p1s
    rw [upI_ne (by decide), upI_at]
theorem p1s_k (hk : Ktc w0 x) : Ktc w0 (p1s x p) := Kt_I (Kt_I hk (by decide)) (by decide)
theorem p1s_70 (h : x.1 70 = I ((o + 1 : Nat) : Int)) : (p1s x p).1 70 = I (o : Nat) := by
  unfold p1s
  rw [upI_at, h]
  exact (I_mn (a := o + 1) (c := 1) (by omega) rfl).trans (by congr 2)
theorem p1s_r (h : RNs x sc) : RNs (p1s x p) sc := RNs_e h (p1s_i (by decide) (by decide)) (fun _ _ _ => rfl)
theorem mat_55 {G} : PK (fun w2 (_ : Int32) => FLW w2) (fb_M_matched_55 N S G u v2) := by
  unfold fb_M_matched_55
  exact pk_ltq (pk_ltq (pk_bnd (fun v r z => pk_some (wrong_s (u0 := upI (upI u 67 0) 69 v2) (by decide) v r z))))
theorem mat_no (c : CTZ m0 w0 K T nm Nk) (hw : RLP m0 w0 T p m w) (hR : RNs w (e :: t)) (h70 : w.1 70 = I ((o + 1 : Nat) : Int)) (md : MID w u a b (t.length + 1)) (u67 : u.1 67 = 0) (u70 : u.1 70 = w.1 70) (u69 : u.1 69 = I (q : Nat)) (hq : q ≤ T) (hu : RNs u sc2) (hx : SCX (e :: t) sc2 X) (hX : X ≤ 1400) (hd : HDs Nk K W p q (e :: t) sc2) (nq : ¬ NC (K q)) (hp : ∀ (d : Nat) (w : MS) (sc : SCT) (o' : Nat), WP w K T p → Ktc w0 w → w.1 67 = 0 → w.1 70 = I (o' : Nat) → o' ≤ o → RNs w sc → PK (fun w2 (_ : Int32) => FLW w2 ∨ (w2.1 67 = 0 ∧ ∃ q, WP w2 K T q ∧ NC (K q))) ((rc_M_rowPattern N d).2 w 0)) : PK (fun w2 (_ : Int32) => FLW w2) (fm_M_matched N S u (I (p : Nat))) := by
  show PK _ (fb_M_matched_0 N S (gg_M_matched N S N) u (I (p : Nat)))
  unfold fb_M_matched_0
  refine pk_bnd (pk_mo (mat_tb hR md) (fun x _ h => ?_))
  obtain ⟨h1, h2⟩ := h
  have rx := RNs_tb hR hu hx hX hd h1 (md.2.1 65 (by decide))
  have kx := MID_kt h2 hw.2.1
  have x70 : x.1 70 = I ((o + 1 : Nat) : Int) := by rw [h1.2.1 70 (by decide), u70]; exact h70
  have x67 : x.1 67 = 0 := by rw [h1.2.1 67 (by decide)]; exact u67
  refine pk_ltq (pk_ltq (pk_bnd (pk_mo (hp 60 (p1s x p) _ o (p1s_w c kx hw.2.2.2.2.1) (p1s_k kx) (by rw [p1s_i (by decide) (by decide)]; exact x67) (p1s_70 x70) (Nat.le_refl _) (p1s_r rx)) (fun y r hy => pk_ltq ?_))))
  refine pk_br (fun z => pk_br (fun z2 => ?_) (fun _ => mat_55)) (fun _ => mat_55)
  exfalso
  have z := of_decide_eq_true z
  have z2 := of_decide_eq_true z2
  rw [upI_ne (by decide)] at z z2
  rcases hy with hy | ⟨-, q', hq', nc⟩
  · exact hy z
  · rw [hq'.2.1, u69] at z2
    have t4 := c.1.1.1
    have := (I_eq (x := (q' : Nat)) (y := (q : Nat)) (by omega) (by have := hq'.2.2; omega) (by omega) (by omega)).mp z2
    have : q' = q := by omega
    rw [this] at nc
    exact nq nc
end
end
section
set_option maxRecDepth 100000
section
variable {α : Type} {R : MS → α → MS → Int32 → Prop} {A : Option (MS × α)} {m0 w0 m w v u m2 m3 w2 x y z xB xC mF : MS} {K nm Nk W W1 W2 WA WB : Nat → Nat} {T p n N q X Y X1 X2 XA n2 n3 lo p2 p4 ν μ a b L L' k d o M D : Nat} {sc sc1 sc2 sc3 sc4 sc5 t t2 t3 t4 t5 : SCT} {e e2 e3 e4 e5 : List Nat × List Nat × Nat} {gd Rf Rg Zf : Bool} {BC : MS → Prop} {v1 v2 r : Int32} {S : SG_M_behind} {NC : Nat → Prop} {CL CM : Int32 × Int32 × Int32 → Prop}
def MTB (w y x : MS) (a b L : Nat) : Prop := MID w x a b L ∧ (x.1 32 = w.1 32 ∧ x.1 72 = w.1 72 ∧ (x.1 66 = 0 ↔ w.1 66 = 0)) ∧ (x.1 67 = y.1 67 ∧ x.1 69 = y.1 69 ∧ x.1 70 = y.1 70) ∧ (∀ i, i < L → x.2.2.1 60 i = w.2.2.1 60 i ∧ x.2.2.1 63 i = y.2.2.1 63 i) ∧ ∀ k, k ≠ 60 → k ≠ 63 → k ≠ 78 → x.2.2.1 k = y.2.2.1 k
theorem mat_lps (hR : RNs w (e :: t)) (md : MID w y a b (t.length + 1)) (k : ∀ (M : Nat) (x : MS), MTB w y x a b (t.length + 1) → PP R A (br (decide (x.1 73 = 0)) (fb_M_matched_154 N S (gg_M_matched N S M) x v1 v2) (bnd (fm_M_rule N x 7 v2) (fun u10 _ => fb_M_matched_154 N S (gg_M_matched N S M) u10 v1 v2)))) : PP R A ((gg_M_matched N S N).1 y v1 v2 0) := by
  have hl : 1 ≤ t.length + 1 ∧ t.length + 1 ≤ 27 := hR.2.1
  have w65 : w.1 65 = I (t.length : Nat) := hR.1
  have y65 : y.1 65 = I (t.length : Nat) := by rw [md.2.1 65 (by decide)]; exact w65
  refine mc1 (L := t.length) y65 (by omega) (fun M s s1 s2 s3 => ?_) N 0 y (Nat.zero_le _) rfl (fun _ _ => rfl) (fun j hj => absurd hj (by omega))
  have ms : MID w s a b (t.length + 1) := MID_g md (fun k _ => by rw [s1]) (fun k hk => s2 k (by omega)) hl.2
  refine r_bnd (pk_mo (mat_tb hR ms) (fun x _ h => ?_))
  obtain ⟨h1, h2⟩ := h
  have x65 : x.1 65 = I (t.length : Nat) := by rw [h2.2.1 65 (by decide)]; exact w65
  refine mc2 (L := t.length) x65 (by omega) (fun M z z1 z2 z3 => ?_) M 0 x (Nat.zero_le _) rfl (fun _ _ => rfl) (fun j hj => absurd hj (by omega))
  refine k M z ⟨MID_g h2 (fun k _ => by rw [z1]) (fun k hk => z2 k (by omega)) hl.2, by rw [z1]; exact h1.1, ?_, fun i hi => ?_, fun k k1 k2 k3 => ?_⟩
  · rw [z1, h1.2.1 67 (by decide), h1.2.1 69 (by decide), h1.2.1 70 (by decide), s1]
    exact ⟨rfl, rfl, rfl⟩
  · rw [z2 60 (by decide), (h1.2.2.2.1 i hi).1, z3 i hi, h1.2.2.1 78 (by decide) (by decide), s3 i hi]
    exact ⟨rfl, rfl⟩
  · rw [z2 k k2, h1.2.2.1 k k1 k2, s2 k k3]
theorem mat_W (hA : WCN Nk K nm WA p q (e :: t)) (h2 : WCN Nk K nm W2 p q sc4) (hB : SCX ((e.1, e3.2.1, e3.2.2) :: t3) sc4 X1) (sB : SNW X1 ((e.1, e3.2.1, e3.2.2) :: t3) sc4) (hx : BDs t t3) : ∀ j, p ≤ j → j < q → K j = 3 → WA j + 1 < (e :: t).length → W2 j ≤ WA j := fun j h1 h3 h4 h5 => by
  obtain ⟨a1, a2⟩ := hA j h1 h3 h4
  obtain ⟨b1, b2⟩ := h2 j h1 h3 h4
  by_cases z : nm (Nk j) ≠ 0 ∧ fnb (Nk j) (e :: t) = true
  · have f1 : fnb (Nk j) ((e.1, e3.2.1, e3.2.2) :: t3) = true := by
      rw [fnb_cons, BDs_fnb hx, ← fnb_cons (e := e)]; exact z.2
    have l1 : lvx (Nk j) ((e.1, e3.2.1, e3.2.2) :: t3) = lvx (Nk j) (e :: t) := by
      rw [lvx_cons, lvx_cons, BDs_lvx hx, (BDs_len hx).1]
    rw [a1 z.1 z.2, b1 z.1 (SCX_fnb hB f1), lvx_up hB sB f1, l1]
    exact Nat.le_refl _
  · exfalso
    have := a2 (by
      by_cases y : nm (Nk j) = 0
      · exact Or.inl y
      · refine Or.inr ?_
        cases i : fnb (Nk j) (e :: t) with
        | false => rfl
        | true => exact absurd ⟨y, i⟩ z)
    omega
theorem SMS_fg (h : SMS w v) : SMS (fgt w) (fgt v) := by
  obtain ⟨h1, h2, h3⟩ := h
  refine ⟨fun k hk => ?_, h2, fun a ha hb => ?_⟩
  · by_cases z : k = 75
    · subst z; unfold fgt; rw [upI_ne (by decide), upI_at, upI_ne (by decide), upI_at, h1 75 (by decide)]
    by_cases z2 : k = 77
    · subst z2; unfold fgt; rw [upI_at, upI_at, h1 77 (by decide)]
    rw [fgt_i z z2, fgt_i z z2]; exact h1 k hk
  · rw [fgt_i (by decide) (by decide)] at ha
    obtain ⟨b, b1, b2, b3⟩ := h3 a ha hb
    exact ⟨b, ⟨by rw [fgt_i (by decide) (by decide)]; exact b1.1, b1.2⟩, b2, b3⟩
theorem mat_fin (c : CTZ m0 w0 K T nm Nk) (hw : RLP m0 w0 T p m w) (hR : RNs w (e :: t)) (h70 : w.1 70 = I ((o + 1 : Nat) : Int)) (hq : p < q) (k30 : K q = 30) (hn0 : n ≤ 2 * p)
    (kp : KPO n m m2) (pc : PCG m m2) (nb : m2.1 306 = I (n2 : Nat) ∧ n ≤ n2 ∧ n2 + 2 * p + 1 ≤ n + 2 * q) (hμ : n < μ ∧ μ ≤ n2)
    (hA : SCX (e :: t) (e3 :: t3) XA) (dA : HDs Nk K WA p q (e :: t) (e3 :: t3)) (ok3 : e3.1.Nodup) (cA : WCN Nk K nm WA p q (e :: t)) (pA : PNM Nk K nm p q (e :: t) (e3 :: t3) XA)
    (hP : PTX N w0 K T nm Nk m2 n n2 μ p q o NC0 X)
    (hp : ∀ (d : Nat) (w : MS) (sc : SCT) (o' : Nat), WP w K T p → Ktc w0 w → w.1 67 = 0 → w.1 70 = I (o' : Nat) → o' ≤ o → RNs w sc → PK (fun w2 (_ : Int32) => PZW Nk K nm T p q sc w w2 (fun sc2 X W => PTN N K nm m2 n n2 μ false p q sc sc2 X W)) ((rc_M_rowPattern N d).2 w 0))
    (xb : MTB w y xB a b (t.length + 1)) (y70 : y.1 70 = w.1 70) (ny : ∀ A : Nat, w.1 32 = I (A : Nat) → A ≤ 100000 → NKP A w y) (hxC : (gd = false ∧ xC = xB) ∨ (gd = true ∧ xC.1 72 ≠ 0 ∧ (∀ k, k ≠ 71 → k ≠ 72 → xC.1 k = xB.1 k) ∧ xC.2.2.1 = xB.2.2.1))
    (hkk : ∃ k : Nat, (k = 1 → p + 1 = q) ∧ (k ≠ 1 → K p = 1 → NC0 (K (p + 1))))
    {CL : Int32 × Int32 × Int32 → Prop} {xr : Nat} (st : STQ m0 w0 K T Nk gd (advc m2 q) (adv xC q) (q + 1) n2 ((e.1, e3.2.1, e3.2.2) :: t3) 1 m3 u p4 n3 sc4 X1 W1 Rf Zf CL) (hr4 : q + 1 < p4) (hxr : n2 < xr ∧ xr ≤ n3) (ex : EXN N K nm gd m3 n2 n3 xr (q + 1) p4 ((e.1, e3.2.1, e3.2.2) :: t3) sc4 X1 W1 Rf Zf (BCo N CL)) :
    PK (fun v r => EXZ N m0 w0 K T nm Nk p n gd (e :: t) o NC1 m w (adN m3 n3 20 (I (q : Nat)) (I (μ : Nat)) (I (xr : Nat)) 0) (.inl (I ((n3 + 1 : Nat) : Int))) (fgt v) r) (lt (upI u 69 (I (p : Nat))) (fun w3 => lt (upI w3 70 ((w3.1 70) - 1)) (fun w4 => bnd (fr_M_patternAt N w4 0) (fun u5 r5 => lt (upI u5 70 ((u5.1 70) + 1)) (fun w6 => lt (upI w6 69 (u.1 69)) (fun w7 => bnd (fm_M_node N w7 16 (I (q : Nat))) (fun u8 r8 => ck (inb r8 (ln 25)) (lt (upA u8 25 (upd (u8.2.2.1 25) r8.toNatClampNeg r5)) (fun w9 => some (w9, r8)))))))))) := by
  have hl : 1 ≤ t.length + 1 ∧ t.length + 1 ≤ 27 := hR.2.1
  obtain ⟨s1, s2, s3, s4, s5, s6, s7⟩ := st
  obtain ⟨f1, f2, f3, f4, f5, f6, f7, A0, B0, f8, f9, f10⟩ := s5
  have T4 := c.1.1.1
  have pT : p4 ≤ T := s1.2.2.2.2.1
  have cI : ∀ k, k ≠ 71 → k ≠ 72 → xC.1 k = xB.1 k := fun k k1 k2 => by
    rcases hxC with ⟨-, z⟩ | ⟨-, -, z, -⟩
    · rw [z]
    · exact z k k1 k2
  have cR : xC.2.2.1 = xB.2.2.1 := by
    rcases hxC with ⟨-, z⟩ | ⟨-, -, -, z⟩
    · rw [z]
    · exact z
  have aI : ∀ k, k ≠ 69 → k ≠ 71 → k ≠ 72 → (adv xC q).1 k = xB.1 k := fun k k0 k1 k2 => by
    unfold adv
    rw [upI_ne k0]; exact cI k k1 k2
  have aR : (adv xC q).2.2.1 = xB.2.2.1 := cR
  have mC : MID w (adv xC q) a b (t.length + 1) := MID_g xb.1 (fun k hk => aI k (by rintro rfl; revert hk; decide) (by rintro rfl; revert hk; decide) (by rintro rfl; revert hk; decide)) (fun k _ => by rw [aR]) hl.2
  have mU : MID w u a b (t.length + 1) := MID_e mC hl.2 f7
  have ku := MID_kt mU hw.2.1
  have u67 : u.1 67 = 0 := s1.2.2.2.2.2.2
  have u69 : u.1 69 = I (p4 : Nat) := s1.2.2.2.1
  have u70 : u.1 70 = w.1 70 := by
    rw [f7.1 70 (by decide), aI 70 (by decide) (by decide) (by decide), xb.2.2.1.2.2, y70]
  have u70' : u.1 70 = I ((o + 1 : Nat) : Int) := u70.trans h70
  refine pk_ltq (pk_ltq (pk_bnd (pk_mo (pk_andq (hp 60 (p1s u p) sc4 o (p1s_w c ku hw.2.2.2.2.1) (p1s_k ku) (by rw [p1s_i (by decide) (by decide)]; exact u67) (p1s_70 u70') (Nat.le_refl _) (p1s_r f1)) (yj_fr_M_patternAt (u0 := p1s u p) (v1 := 0) (N := N) Kj_rf)) (fun v r5 h => ?_))))
  obtain ⟨⟨sc5, X2, W2, g1, g2, g3, g4, ⟨g5, g5b⟩, g6, g7, g8, g9, g10⟩, kj⟩ := h
  refine pk_ltq (pk_ltq ?_)
  generalize hw7 : upI (upI v 70 (v.1 70 + 1)) 69 (u.1 69) = w7
  have i7 : ∀ k, k ≠ 69 → k ≠ 70 → w7.1 k = v.1 k := fun k k1 k2 => by rw [← hw7, upI_ne k1, upI_ne k2]
  have r7 : w7.2.2.1 = v.2.2.1 := by rw [← hw7]; rfl
  have w69 : w7.1 69 = I (p4 : Nat) := by rw [← hw7, upI_at]; exact u69
  have w70 : w7.1 70 = w.1 70 := by
    rw [← hw7, upI_ne (by decide), upI_at, g7.1 70 (by decide), p1s_70 u70', h70]
    exact i_suc
  clear hw7
  have m7 : MID w w7 a b (t.length + 1) := by
    have mv : MID w v a b (t.length + 1) := MID_j (MID_g mU (fun k hk => p1s_i (by rintro rfl; revert hk; decide) (by rintro rfl; revert hk; decide)) (fun _ _ => rfl) hl.2) hl.2 kj
    exact MID_g mv (fun k hk => i7 k (by rintro rfl; revert hk; decide) (by rintro rfl; revert hk; decide)) (fun k _ => by rw [r7]) hl.2
  have w67 : w7.1 67 = 0 := by rw [i7 67 (by decide) (by decide), g7.1 67 (by decide), p1s_i (by decide) (by decide)]; exact u67
  have rn7 : RNs w7 sc5 := RNs_e g2 (i7 65 (by decide) (by decide)) (fun k _ _ => by rw [r7])
  cases sc4 with
  | nil => exact f2.elim
  | cons e4 t4 =>
  cases sc5 with
  | nil => exact g3.elim
  | cons e5 t5 =>
  have okl : e.1.length ≤ e.2.2 := hR.2.2.2.1.2.2.2.1
  have hX := mat_X ok3 okl hA pA f2 s7 g3 g9
  have scx := mat_SCX hA f2 g3 hX
  have lt5 := (BDs_len hA.2.2).2
  have totB : tot ((e.1, e3.2.1, e3.2.2) :: t3) = tot (e :: t) := by
    show tot t3 + e.1.length = tot t + e.1.length
    rw [lt5]
  rw [totB] at f4
  have nmB : nms ((e.1, e3.2.1, e3.2.2) :: t3) = nms (e :: t) := by
    show e.1 :: nms t3 = e.1 :: nms t
    rw [BDs_nm hA.2.2]
  have sn : SNW (max X1 X2) (e :: t) (e5 :: t5) := by
    have := SNW_tr s7 f2 (PNM_sn g9)
    refine ⟨fun x hx => ?_, this.2⟩
    rcases this.1 x hx with z | z
    · exact Or.inl z
    · refine Or.inr ?_
      rw [fnb_cons, BDs_fnb hA.2.2] at z
      rw [fnb_cons]; exact z
  have hds : HDs Nk K (mrg q W2 W1) p p4 (e :: t) (e5 :: t5) := HDs_mat ⟨by omega, by omega⟩ (by omega) dA (HDs_B (e2 := e3) f3 rfl) g4 (mat_W cA g8 f2 s7 hA.2.2)
  have n32 : w7.1 32 = u.1 32 := by rw [i7 32 (by decide) (by decide), kj.1 32 (by decide), p1s_i (by decide) (by decide)]
  have r23 : ∀ k, k < 33 → w7.2.2.1 k = u.2.2.1 k := fun k hk => by rw [r7, kj.2 k (Or.inl hk)]; rfl
  have w32 : w.1 32 = I (A0 : Nat) := by rw [← xb.2.1.1, ← aI 32 (by decide) (by decide) (by decide)]; exact f8.1
  have nyC : NKP A0 w (adv xC q) := fun j hj => by
    have := ny A0 w32 (by omega) j hj
    rw [aR, xb.2.2.2.2 23 (by decide) (by decide) (by decide), xb.2.2.2.2 25 (by decide) (by decide) (by decide), xb.2.2.2.2 26 (by decide) (by decide) (by decide), xb.2.2.2.2 27 (by decide) (by decide) (by decide)]
    exact this
  have stq : STQ m0 w0 K T Nk gd m w p n (e :: t) 2 m3 (fgt w7) p4 n3 (e5 :: t5) (max X1 X2) (mrg q W2 W1) (gd || Rf) Zf CL := by
    refine ⟨⟨s1.1, ?_, s1.2.2.1, by rw [fgt_i (by decide) (by decide)]; exact w69, pT, by rw [fgt_i (by decide) (by decide), w70, ← u70]; exact s1.2.2.2.2.2.1, by rw [fgt_i (by decide) (by decide)]; exact w67⟩, ⟨by omega, s2.2.1, by omega, by omega⟩, KPO_tr kp s3 (by omega), PCG_tr (PCG_I pc (Or.inr (Or.inr rfl))) s4, ⟨RNs_fg rn7, scx, hds, ⟨by omega, by omega⟩, ?_, ?_, MID_fg m7 (by rw [w67, hw.2.2.2.2.2.2]) w70, A0, B0, ⟨w32, by rw [fgt_i (by decide) (by decide), n32]; exact f8.2.1, f8.2.2⟩, fun x => ?_, NKP_tr nyC (NKP_tr f10 (fun j hj => ?_) (Nat.le_refl _)) (Nat.le_refl _)⟩, fun g z => ?_, sn⟩
    · exact Kt_I (Kt_I (MID_kt m7 hw.2.1) (by decide)) (by decide)
    · rw [fgt_i (by decide) (by decide), i7 66 (by decide) (by decide)]
      refine mat_lg (g1 := xB.1 66) (g2 := u.1 66) hA f2 hX xb.2.1.2.2 ?_ ?_
      · rw [f5, aI 66 (by decide) (by decide) (by decide)]
      · rw [g6, p1s_i (by decide) (by decide)]
    · rw [fgt_i (by decide) (by decide), i7 72 (by decide) (by decide), g7.1 72 (by decide), p1s_i (by decide) (by decide), f6]
      unfold adv
      rw [upI_ne (by decide)]
      rcases hxC with ⟨z1, z2⟩ | ⟨z1, z2, -, -⟩
      · rw [z1, z2, xb.2.1.2.1, Bool.false_or]
      · rw [z1, Bool.true_or]
        exact ⟨fun z => absurd z.1 z2, fun z => Bool.noConfusion z.2⟩
    · have : CSY (fgt w7) A0 B0 x ↔ CSY u A0 B0 x := by
        unfold CSY
        show (∃ j, (A0 ≤ j ∧ j < B0) ∧ ((w7.2.2.1 23 j = 12 ∧ x.2.2 = if w7.2.2.1 27 j = 1 then 1 else 0) ∨ (w7.2.2.1 23 j = 15 ∧ x.2.2 = 2)) ∧ w7.2.2.1 25 j = x.1 ∧ w7.2.2.1 26 j = x.2.1) ↔ _
        rw [r23 23 (by decide), r23 25 (by decide), r23 26 (by decide), r23 27 (by decide)]
      rw [this]; exact f9 x
    · show w7.2.2.1 23 j = _ ∧ (_ → w7.2.2.1 25 j = _ ∧ w7.2.2.1 26 j = _ ∧ w7.2.2.1 27 j = _)
      rw [r23 23 (by decide), r23 25 (by decide), r23 26 (by decide), r23 27 (by decide)]
      exact ⟨rfl, fun _ => ⟨rfl, rfl, rfl⟩⟩
    · rw [g] at z; cases z
  refine pk_bnd (pk_mo (node_s (kd := 16) (tk := I (q : Nat)) (N := N) (w := w7) (by decide)) (fun u8 r8 h8 => pk_ck (fun _ => pk_ltq (pk_some ?_))))
  obtain ⟨b1, b2, -, av, ⟨b3, b3'⟩, b4, b5, b6, b7⟩ := h8
  have sms := SMS_B (k := 25) (x := r5) (a := av) b1 (Or.inl rfl) (by rw [b6]; decide)
  rw [b7]
  generalize hx9 : upA u8 25 (upd (u8.2.2.1 25) av r5) = x9 at sms ⊢
  have x69 : x9.1 69 = w7.1 69 := by rw [← hx9]; exact b2
  clear hx9
  have st9 := STQ_s stq (SMS_fg sms) (by rw [fgt_i (by decide) (by decide), fgt_i (by decide) (by decide)]; exact x69)
  have nn : n3 ≤ 8014 := by omega
  have hn : nod (adN m3 n3 20 (I (q : Nat)) (I (μ : Nat)) (I (xr : Nat)) 0) (n3 + 1) = (I ((20 : Nat) : Int), I (q : Nat), I (μ : Nat), I (xr : Nat), 0) := adN_nod.1
  have kc : Kcc m2 m3 := Kc_tr (PCG_k (PCG_I (m := m2) PCG_rf (Or.inr (Or.inr rfl)) : PCG m2 (advc m2 q))) (PCG_k s4)
  have kcF : Kcc m3 (adN m3 n3 20 (I (q : Nat)) (I (μ : Nat)) (I (xr : Nat)) 0) := PCG_k (PCG_add PCG_rf)
  refine ⟨p4, n3 + 1, n3 + 1, e5 :: t5, max X1 X2, mrg q W2 W1, gd || Rf, Zf, CL, rfl, ⟨by omega, Nat.le_refl _⟩, by omega, STQ_add st9, adN_nod.2, ?_, PTX_der hP hn (by omega) (Nat.le_refl _) (by omega) (by decide) (by decide) (by decide) (fun _ z => Or.inl z) (Or.inr (Or.inl k30)), 20, ?_, by decide, fun z => absurd z (by decide), fun _ z => ?_, q, by omega, ?_⟩
  · cases gd with
    | true => exact exn_ng (kd := 20) (by unfold CMK; omega) ⟨by decide, by decide⟩ hn (by omega) (by omega) (Nat.le_refl _) (by omega)
    | false =>
      refine exn_mat (gd := false) (q := p) (q2 := q) (q3 := q + 1) (q4 := p4) (sc1 := e4 :: t4) (m0 := m2) (l0 := n) (n0 := n2) (m1 := m3) (li := n2) (n1 := n3) hn (by omega) (by omega) (Nat.le_refl _) (by omega) ⟨Nat.le_refl _, by omega, by omega, by omega, Nat.le_refl _⟩ (fun j h1 h2 => absurd h2 (by omega)) (fun j h1 h2 => by rw [show j = q by omega]; omega) (fun j h1 h2 => absurd h2 (by omega)) (PTN_w (fun j _ h2 => mrg_l h2) g10) (Nat.le_refl _) (KPO_tr s3 adN_o (by omega)) (Kc_tr kc kcF) (by omega) (EXN_nm nmB (EXN_w (fun j h1 _ => mrg_r (by omega)) ex)) (by omega) adN_o kcF (by omega) ⟨by omega, by rw [SCX_len f2]; show t3.length + 1 = t.length + 1; rw [(BDs_len hA.2.2).1], by omega⟩
  · rw [adN_16, upd_at]; rfl
  · obtain ⟨kk, h1, h2⟩ := hkk
    by_cases z1 : kk = 1
    · rw [h1 z1, k30]; exact Or.inr (Or.inl rfl)
    · exact Or.inl (h2 z1 z)
  · rw [adN_17, upd_at]
end
end
section
set_option maxRecDepth 100000
section
variable {α : Type} {R : MS → α → MS → Int32 → Prop} {A : Option (MS × α)} {m0 w0 m w v u m2 m3 w2 x y z xB xC mF vS : MS} {K nm Nk W W1 W2 WA WB : Nat → Nat} {T p n N q X Y X1 X2 XA n2 n3 lo p2 p4 ν μ a b L L' k d o M D s : Nat} {sc sc1 sc2 sc3 sc4 sc5 t t2 t3 t4 t5 : SCT} {e e2 e3 e4 e5 : List Nat × List Nat × Nat} {gd Rf Rg Zf : Bool} {BC : MS → Prop} {v1 v2 r ξ : Int32} {S : SG_M_behind} {NC : Nat → Prop} {CL CM : Int32 × Int32 × Int32 → Prop}
theorem SVG_e (h : SVG w v L) : (∀ k, k ≠ 75 → k ≠ 77 → v.1 k = w.1 k) ∧ ∀ k, k ≠ 74 → k ≠ 76 → v.2.2.1 k = w.2.2.1 k := by
  obtain ⟨a, b, h1, h2, h3, h4, h5⟩ := h
  exact ⟨h3, h4⟩
theorem STQ_fg (h : STQ m0 w0 K T Nk gd m vS p n sc s m2 x q n2 sc2 X W Rf Zf CL) (hs : SVG w vS sc.length) (hL : sc.length ≤ 27) (hw : RLP m0 w0 T p m w) : STQ m0 w0 K T Nk gd m w p n sc s m2 (fgt x) q n2 sc2 X W Rf Zf CL := by
  obtain ⟨s1, s2, s3, s4, s5, s6, s7⟩ := h
  obtain ⟨f1, f2, f3, f4, f5, f6, f7, A0, B0, f8, f9, f10⟩ := s5
  obtain ⟨i1, i2⟩ := SVG_e hs
  obtain ⟨a, b, md⟩ := MID_sv hs
  have mx := MID_e md hL f7
  have x70 : x.1 70 = w.1 70 := by rw [f7.1 70 (by decide), i1 70 (by decide) (by decide)]
  have x67 : x.1 67 = w.1 67 := by rw [f7.1 67 (by decide), i1 67 (by decide) (by decide)]
  refine ⟨⟨s1.1, Kt_I (Kt_I s1.2.1 (by decide)) (by decide), s1.2.2.1, by rw [fgt_i (by decide) (by decide)]; exact s1.2.2.2.1, s1.2.2.2.2.1, by rw [fgt_i (by decide) (by decide)]; exact s1.2.2.2.2.2.1, by rw [fgt_i (by decide) (by decide)]; exact s1.2.2.2.2.2.2⟩, s2, s3, s4, ⟨RNs_fg f1, f2, f3, f4, ?_, ?_, MID_fg mx x67 x70, A0, B0, ⟨by rw [← i1 32 (by decide) (by decide)]; exact f8.1, by rw [fgt_i (by decide) (by decide)]; exact f8.2.1, f8.2.2⟩, f9, fun j hj => ?_⟩, s6, s7⟩
  · rw [fgt_i (by decide) (by decide), ← i1 66 (by decide) (by decide)]; exact f5
  · rw [fgt_i (by decide) (by decide), ← i1 72 (by decide) (by decide)]; exact f6
  · rw [← i2 23 (by decide) (by decide), ← i2 25 (by decide) (by decide), ← i2 26 (by decide) (by decide), ← i2 27 (by decide) (by decide)]
    exact f10 j hj
theorem EXZ_fg (h : EXZ N m0 w0 K T nm Nk p n gd sc o NC0 m vS m2 (.inl ξ) u r) (hs : SVG w vS sc.length) (hL : sc.length ≤ 27) (hw : RLP m0 w0 T p m w) : EXZ N m0 w0 K T nm Nk p n gd sc o NC1 m w m2 (.inl ξ) (fgt u) v1 := by
  obtain ⟨q, n2, μ, sc2, X, W, Rf, Zf, CL, b1, b2, b3, b4, b5, b6, b7, kk, k1, k2, k3, k4, k5⟩ := h
  exact ⟨q, n2, μ, sc2, X, W, Rf, Zf, CL, b1, b2, b3, STQ_fg b4 hs hL hw, b5, b6, PTX_up b7 ⟨fun _ _ _ => ⟨rfl, fun _ => rfl⟩, Kc_rf⟩ (Nat.le_refl _) (Nat.le_refl _) (fun _ z => Or.inl z), kk, k1, k2, k3, fun z y => Or.inl (k4 z y), k5⟩
theorem mat_pp (c : CTZ m0 w0 K T nm Nk) (hB : HBh N m0 w0 K T nm Nk d) (hw : RLP m0 w0 T p m w) (hR : RNs w sc) (hn2 : n ≤ 2 * p) (h70 : w.1 70 = I ((o + 1 : Nat) : Int)) (ho : o + 1 ≤ 25) (hg : decide (w.1 73 = 0) = !gd) (hs : SVG w vS sc.length) (hE : EXZ N m0 w0 K T nm Nk p n gd sc o NC0 m vS m2 (.inl ξ) u r) (uq : u.1 69 = I (q : Nat)) (k30 : K q = 30) (qT : q ≤ T) : PP (fun m' z u' r' => EXZ N m0 w0 K T nm Nk p n gd sc o NC1 m w m' z (fgt u') r') (hb_Pa_matched_19 N (hrc_Pa_matched N D) () m2 ξ (I (K q : Nat))) (fm_M_matched N (rc_M_behind N d) u (I (p : Nat))) := by
  have hl : 1 ≤ sc.length ∧ sc.length ≤ 27 := hR.2.1
  obtain ⟨q', n2, μ, sc2, X, W, Rf, Zf, CL, b1, b2, b3, st, b5, b6, b7, kk, k1, k2, k3, k4, k5⟩ := hE
  have T4 := c.1.1.1
  have qe : q' = q := by
    have := st.1.2.2.2.1.symm.trans uq
    have := (I_eq (x := (q' : Nat)) (y := (q : Nat)) (by omega) (by have := st.1.2.2.2.2.1; omega) (by omega) (by omega)).mp this
    omega
  subst qe
  obtain ⟨i1, i2⟩ := SVG_e hs
  obtain ⟨a, b, md⟩ := MID_sv hs
  obtain ⟨s1, s2, s3, s4, s5, s6, s7⟩ := id st
  obtain ⟨f1, f2, f3, f4, f5, f6, f7, A0, B0, f8, f9, f10⟩ := s5
  have mu := MID_e md hl.2 f7
  have hc := RLP_c c st.1
  have u67 : u.1 67 = 0 := s1.2.2.2.2.2.2
  have u70 : u.1 70 = w.1 70 := by rw [f7.1 70 (by decide), i1 70 (by decide) (by decide)]
  have ql : q' < T := TWK_lt c qT (by omega) (by omega)
  subst b1
  cases sc with
  | nil => exact absurd hl.1 (by decide)
  | cons e t =>
  obtain ⟨isP, hX0, hi, hp⟩ := id b7
  unfold hb_Pa_matched_19
  rw [k30, show decide (I ((30 : Nat) : Int) = 30) = true from rfl, br_tq]
  refine l_bnd (pk_mo (hi 300 m2 ⟨fun _ _ _ => ⟨rfl, fun _ => rfl⟩, Kc_rf⟩) (fun mv rv h => ?_))
  obtain ⟨rfl, rfl⟩ := h
  cases isP with
  | false =>
    rw [show decide (b2c false = 0) = true from rfl, br_tq]
    refine pp_rf (RFS_T (rfs_e hc)) (fun m' => ?_)
    refine pk_mo (mat_no (o := o) (NC := NC0) c hw hR h70 mu u67 u70 uq qT f1 f2 f4.2 f3 (by unfold NC0; rw [k30]; decide) (fun d' w' sc' o' x1 x2 x3 x4 x5 x6 => pk_mo (hp d' w' sc' o' x1 x2 x3 x4 x5 x6) (fun v' r' h => ?_))) (fun v' r' h => fgt_fl h)
    rcases h with ⟨z, -⟩ | ⟨-, z⟩
    · cases z
    · exact z
  | true =>
    have X0 := hX0 rfl
    subst X0
    rw [show decide (b2c true = 0) = false from rfl, br_fq]
    have hp' : ∀ (d : Nat) (w : MS) (sc : SCT) (o' : Nat), WP w K T p → Ktc w0 w → w.1 67 = 0 → w.1 70 = I (o' : Nat) → o' ≤ o → RNs w sc → PK (fun w2 (_ : Int32) => PZW Nk K nm T p q' sc w w2 (fun sc2 X W => PTN N K nm mv n n2 μ false p q' sc sc2 X W)) ((rc_M_rowPattern N d).2 w 0) := fun d' w' sc' o' x1 x2 x3 x4 x5 x6 => pk_mo (hp d' w' sc' o' x1 x2 x3 x4 x5 x6) (fun v' r' h => by
      rcases h with ⟨-, z⟩ | ⟨z, -⟩
      · exact z
      · cases z)
    unfold hb_Pa_matched_41 hb_Pa_matched_69
    rw [hc.2.1, i_suc, show decide (I ((30 : Nat) : Int) = 30) = true from rfl]
    refine l_lt ?_
    rw [br_tq]
    show PP _ (bTm ((hrc_Pa_matched N D).2.2.2.2.2.2.2.2.2.2.2.2.2.2.1 (advc mv q') 0) (fun u2 r2 => bnd (hm_Tr_add N u2 20 (I (q' : Nat)) (I (μ : Nat)) r2 0) (fun u3 r3 => some (u3, .inl r3)))) (fb_M_matched_0 N (rc_M_behind N d) (gg_M_matched N (rc_M_behind N d) N) u (I (p : Nat)))
    unfold fb_M_matched_0
    refine r_bnd (pk_mo (mat_tb hR mu) (fun x1 _ h => ?_))
    obtain ⟨tb, mx1⟩ := h
    have rx := RNs_tb hR f1 f2 f4.2 f3 tb (mu.2.1 65 (by decide))
    rw [show ((e.1, e.2.1, max e.2.2 0) : List Nat × List Nat × Nat) = e by rw [Nat.max_zero]] at rx
    have kx := MID_kt mx1 hw.2.1
    have x70 : x1.1 70 = I ((o + 1 : Nat) : Int) := by rw [tb.2.1 70 (by decide), u70]; exact h70
    have x67 : x1.1 67 = 0 := by rw [tb.2.1 67 (by decide)]; exact u67
    refine r_lt (r_lt (r_bnd (pk_mo (pk_andq (hp' 60 (p1s x1 p) (e :: t) o (p1s_w c kx hw.2.2.2.2.1) (p1s_k kx) (by rw [p1s_i (by decide) (by decide)]; exact x67) (p1s_70 x70) (Nat.le_refl _) (p1s_r rx)) (yj_fr_M_patternAt (u0 := p1s x1 p) (v1 := 0) (N := N) Kj_rf)) (fun v r5 h => r_lt ?_))))
    obtain ⟨⟨sc3, XA, WA, g1, g2, g3, g4, ⟨g5, g5b⟩, g6, g7, g8, g9, g10⟩, kj⟩ := h
    generalize hy : upI v 70 (v.1 70 + 1) = y
    have iy : ∀ k, k ≠ 70 → y.1 k = v.1 k := fun k k1 => by rw [← hy, upI_ne k1]
    have ry : y.2.2.1 = v.2.2.1 := by rw [← hy]; rfl
    have y70 : y.1 70 = w.1 70 := by
      rw [← hy, upI_at, g7.1 70 (by decide), p1s_70 x70, h70]
      exact i_suc
    clear hy
    have y67 : y.1 67 = 0 := by rw [iy 67 (by decide), g7.1 67 (by decide), p1s_i (by decide) (by decide)]; exact x67
    have y69 : y.1 69 = I (q' : Nat) := by rw [iy 69 (by decide)]; exact g1.2.1
    have my : MID w y a b (t.length + 1) := by
      have mv : MID w v a b (t.length + 1) := MID_j (MID_g mx1 (fun k hk => p1s_i (by rintro rfl; revert hk; decide) (by rintro rfl; revert hk; decide)) (fun _ _ => rfl) hl.2) hl.2 kj
      exact MID_g mv (fun k hk => iy k (by rintro rfl; revert hk; decide)) (fun k _ => by rw [ry]) hl.2
    have rny : RNs y sc3 := RNs_e g2 (iy 65 (by decide)) (fun k _ _ => by rw [ry])
    have ny : ∀ A : Nat, w.1 32 = I (A : Nat) → A ≤ 100000 → NKP A w y := fun A hA hA2 j hj => by
      have e0 : A = A0 := by
        have := hA.symm.trans ((i1 32 (by decide) (by decide)).symm.trans f8.1)
        have := (I_eq (x := (A : Nat)) (y := (A0 : Nat)) (by omega) (by omega) (by omega) (by omega)).mp this
        omega
      subst e0
      have r23 : ∀ k, k < 33 → y.2.2.1 k = u.2.2.1 k := fun k hk => by
        rw [ry, kj.2 k (Or.inl hk)]
        show x1.2.2.1 k = _
        exact tb.2.2.1 k (by omega) (by omega)
      have := f10 j hj
      rw [i2 23 (by decide) (by decide), i2 25 (by decide) (by decide), i2 26 (by decide) (by decide), i2 27 (by decide) (by decide)] at this
      rw [r23 23 (by decide), r23 25 (by decide), r23 26 (by decide), r23 27 (by decide)]
      exact this
    cases sc3 with
    | nil => exact g3.elim
    | cons e3 t3 =>
    rw [decide_eq_true y67, br_tq, y69, uq, decide_eq_true rfl, br_tq]
    refine mat_lps hR my (fun M xB xb => ?_)
    have rnB : RNs xB ((e.1, e3.2.1, e3.2.2) :: t3) := RNs_B hR rny g3 (fun i hi => (xb.2.2.2.1 i hi).1) (fun i hi => (xb.2.2.2.1 i hi).2) (xb.2.2.2.2 59 (by decide) (by decide) (by decide)) (xb.2.2.2.2 61 (by decide) (by decide) (by decide)) (xb.2.2.2.2 64 (by decide) (by decide) (by decide)) (xb.1.2.1 65 (by decide))
    have go : ∀ xC, ((gd = false ∧ xC = xB) ∨ (gd = true ∧ xC.1 72 ≠ 0 ∧ (∀ k, k ≠ 71 → k ≠ 72 → xC.1 k = xB.1 k) ∧ xC.2.2.1 = xB.2.2.1)) → PP (fun m' z u' r' => EXZ N m0 w0 K T nm Nk p n gd (e :: t) o NC1 m w m' z (fgt u') r') (bTm ((hrc_Pa_matched N D).2.2.2.2.2.2.2.2.2.2.2.2.2.2.1 (advc mv q') 0) (fun u2 r2 => bnd (hm_Tr_add N u2 20 (I (q' : Nat)) (I (μ : Nat)) r2 0) (fun u3 r3 => some (u3, .inl r3)))) (fb_M_matched_154 N (rc_M_behind N d) (gg_M_matched N (rc_M_behind N d) M) xC (I (p : Nat)) (I (q' : Nat))) := fun xC hxC => by
      have cI : ∀ k, k ≠ 71 → k ≠ 72 → xC.1 k = xB.1 k := fun k k1 k2 => by
        rcases hxC with ⟨-, z⟩ | ⟨-, -, z, -⟩
        · rw [z]
        · exact z k k1 k2
      have cR : xC.2.2.1 = xB.2.2.1 := by
        rcases hxC with ⟨-, z⟩ | ⟨-, -, -, z⟩
        · rw [z]
        · exact z
      have mC : MID w xC a b (t.length + 1) := MID_g xb.1 (fun k hk => cI k (by rintro rfl; revert hk; decide) (by rintro rfl; revert hk; decide)) (fun k _ => by rw [cR]) hl.2
      have c69 : xC.1 69 = I (q' : Nat) := by rw [cI 69 (by decide) (by decide), xb.2.2.1.2.1]; exact y69
      have c70 : xC.1 70 = w.1 70 := by rw [cI 70 (by decide) (by decide), xb.2.2.1.2.2]; exact y70
      have rl : RLP m0 w0 T q' mv xC := ⟨s1.1, MID_kt mC hw.2.1, s1.2.2.1, c69, qT, by rw [c70, ← u70]; exact s1.2.2.2.2.2.1, by rw [cI 67 (by decide) (by decide), xb.2.2.1.1]; exact y67⟩
      have aI : ∀ k, k ≠ 69 → (adv xC q').1 k = xC.1 k := fun k hk => by unfold adv; rw [upI_ne hk]
      have rnC : RNs (adv xC q') ((e.1, e3.2.1, e3.2.2) :: t3) := RNs_e rnB (by rw [aI 65 (by decide)]; exact cI 65 (by decide) (by decide)) (fun k _ _ => by show xC.2.2.1 k = _; rw [cR])
      have ndC : ND (adv xC q') := ⟨A0, by rw [aI 32 (by decide), cI 32 (by decide) (by decide), xb.2.1.1, ← i1 32 (by decide) (by decide)]; exact f8.1, by omega⟩
      unfold fb_M_matched_154
      rw [i_suc]
      refine r_lt ?_
      refine pp_bTn (hB D (advc mv q') (adv xC q') (q' + 1) n2 _ gd (o + 1) (RLP_ad rl ql) (by unfold advc; rw [upI_ne (by decide)]; exact s2.2.1) (by omega) rnC ndC (by rw [aI 70 (by decide), c70]; exact h70) (by omega) (by rw [aI 73 (by decide), mC.2.1 73 (by decide)]; exact hg)) (fun m3 v3 u2 r2 hz => ?_) (fun m3 k3 u2 r2 hz => ?_)
      · obtain ⟨p4, n3, xr, sc4, X1, W1, Rf1, Zf1, CL1, d1, d2, d3, st4, d5, d6, d7, d8⟩ := hz
        have u267 : u2.1 67 = 0 := st4.1.2.2.2.2.2.2
        have := st4.2.1
        have := st4.1.2.2.2.2.1
        rw [decide_eq_true u267, br_tq, d1, add_e st4.2.1.2.1 (by omega), bnd_s]
        refine pp_l ?_
        exact mat_fin (gd := gd) c hw hR h70 b3 k30 hn2 s3 s4 ⟨s2.2.1, by omega, by omega⟩ b2 g3 g4 g2.2.2.2.1.1 g8 g9 b7 hp' xb y70 ny hxC ⟨kk, fun z => (k3 z).2.1.symm, k4⟩ st4 (by omega) d2 d6
      · have hz : FLW u2 := hz
        rw [decide_eq_false hz, br_fq]
        exact pk_some (fgt_fl hz)
    rw [xb.1.2.1 73 (by decide)]
    cases gd with
    | false =>
      rw [hg]
      show PP _ _ (br true _ _)
      rw [br_tq]
      exact go xB (Or.inl ⟨rfl, rfl⟩)
    | true =>
      rw [hg]
      show PP _ _ (br false _ _)
      rw [br_fq]
      refine r_bnd (pk_mo (rule_p (by decide)) (fun xC _ h => ?_))
      exact go xC (Or.inr ⟨rfl, h⟩)
end
end
section
set_option maxRecDepth 100000
section
variable {α : Type} {R : MS → α → MS → Int32 → Prop} {A : Option (MS × α)} {m0 w0 m w v u m2 m3 w2 x y z xB xC mF vS : MS} {K nm Nk W W1 W2 WA WB : Nat → Nat} {T p n N q X Y X1 X2 XA n2 n3 lo p2 p4 ν μ a b L L' k d o M D s : Nat} {sc sc1 sc2 sc3 sc4 sc5 t t2 t3 t4 t5 : SCT} {e e2 e3 e4 e5 : List Nat × List Nat × Nat} {gd Rf Rg Zf : Bool} {BC : MS → Prop} {v1 v2 r ξ : Int32} {S : SG_M_behind} {NC : Nat → Prop} {CL CM : Int32 × Int32 × Int32 → Prop}
theorem snd_pp (c : CTZ m0 w0 K T nm Nk) (hB : HBh N m0 w0 K T nm Nk d) (hw : RLP m0 w0 T p m w) (hR : RNs w sc) (hn2 : n ≤ 2 * p) (h70 : w.1 70 = I ((o + 1 : Nat) : Int)) (ho : o + 1 ≤ 25) (hg : decide (w.1 73 = 0) = !gd) (hs : SVG w vS sc.length) (hE : EXZ N m0 w0 K T nm Nk p n gd sc o NC0 m vS m2 (.inl ξ) u r) (uq : u.1 69 = I (q : Nat)) (k36 : K q = 36) (qT : q ≤ T) : PP (EXZ N m0 w0 K T nm Nk p n gd sc o NC1 m w) (hb_Pa_matched_19 N (hrc_Pa_matched N D) () m2 ξ (I (K q : Nat))) (fb_M_simple_39 N (rc_M_behind N d) () u r) := by
  have hl : 1 ≤ sc.length ∧ sc.length ≤ 27 := hR.2.1
  obtain ⟨q', n2, μ, sc2, X, W, Rf, Zf, CL, b1, b2, b3, st, b5, b6, b7, kk, k1, k2, k3, k4, k5⟩ := hE
  have T4 := c.1.1.1
  have qe : q' = q := by
    have := st.1.2.2.2.1.symm.trans uq
    have := (I_eq (x := (q' : Nat)) (y := (q : Nat)) (by omega) (by have := st.1.2.2.2.2.1; omega) (by omega) (by omega)).mp this
    omega
  subst qe
  obtain ⟨i1, i2⟩ := SVG_e hs
  have f7 := st.2.2.2.2.1.2.2.2.2.2.2.1
  have hc := RLP_c c st.1
  have hwp := RLP_w c st.1
  have u67 : u.1 67 = 0 := st.1.2.2.2.2.2.2
  have u70 : u.1 70 = w.1 70 := by rw [f7.1 70 (by decide), i1 70 (by decide) (by decide)]
  have u73 : u.1 73 = w.1 73 := by rw [f7.1 73 (by decide), i1 73 (by decide) (by decide)]
  have ql : q' < T := TWK_lt c qT (by omega) (by omega)
  subst b1
  unfold hb_Pa_matched_19 hb_Pa_matched_41 hb_Pa_matched_69 fb_M_simple_39
  rw [k36, show decide (I ((36 : Nat) : Int) = 30) = false from rfl, br_fq, hc.2.1, i_suc]
  refine l_lt ?_
  rw [br_fq, decide_eq_true u67, br_tq, isS_e (k := 36) (s := 21) hwp (by decide) rfl, bnd_s, if_pos k36, show decide ((1 : Int32) = 0) = false from rfl, br_fq, u73, hg]
  have go : ∀ xC R1, (gd = true → R1 = true) → (gd = false → R1 = Rf) → STQ m0 w0 K T Nk gd m vS p n sc 1 m2 xC q' n2 sc2 X W R1 Zf CL → xC.1 70 = u.1 70 → xC.1 73 = u.1 73 → xC.1 69 = u.1 69 → PP (EXZ N m0 w0 K T nm Nk p n gd sc o NC1 m w) (bTm ((hrc_Pa_matched N D).2.2.2.2.2.2.2.2.2.2.2.2.2.2.1 (advc m2 q') 0) (fun u2 r2 => bnd (hm_Tr_add N u2 21 (I (q' : Nat)) (I (μ : Nat)) r2 0) (fun u3 r3 => some (u3, .inl r3)))) (fb_M_simple_74 N (rc_M_behind N d) () xC (u.1 69)) := fun xC R1 hR1 hR2 sC c70 c73 c69 => by
    have ss := STQ_ad sC ql (by omega)
    have aI : ∀ k, k ≠ 69 → (adv xC q').1 k = xC.1 k := fun k hk => by unfold adv; rw [upI_ne hk]
    unfold fb_M_simple_74
    rw [c69, uq, i_suc]
    refine r_lt ?_
    have sb := ss.2.1
    refine pp_bTn (hB D (advc m2 q') (adv xC q') (q' + 1) n2 _ gd (o + 1) ss.1 ss.2.1.2.1 (by omega) (STQ_rn ss) (STQ_nd ss) (by rw [aI 70 (by decide), c70, u70]; exact h70) (by omega) (by rw [aI 73 (by decide), c73, u73]; exact hg)) (fun m3 v3 u2 r2 hz => ?_) (fun m3 k3 u2 r2 hz => ?_)
    · obtain ⟨p4, n3, xr, sc4, X1, W1, Rf1, Zf1, CL1, d1, d2, d3, st4, d5, d6, d7, d8⟩ := hz
      have nb := st4.2.1
      have := st4.1.2.2.2.2.1
      rw [d1, add_e st4.2.1.2.1 (by omega), bnd_s]
      refine pp_l (pk_bnd (pk_mo (node_s (kd := 11) (N := N) (by decide)) (fun u4 r4 h4 => ?_)))
      refine pk_some ?_
      have s1 := STQ_s (STQ_tr ss st4) h4.1 h4.2.1
      have s2 := STQ_add (a := 21) (b := I (q' : Nat)) (c := I (μ : Nat)) (d := I (xr : Nat)) (f := 0) (STQ_s2 s1 (by omega : 1 + 1 ≤ _))
      have s3 := STQ_fg s2 hs hl.2 hw
      have hn : nod (adN m3 n3 21 (I (q' : Nat)) (I (μ : Nat)) (I (xr : Nat)) 0) (n3 + 1) = (I ((21 : Nat) : Int), I (q' : Nat), I (μ : Nat), I (xr : Nat), 0) := adN_nod.1
      have kc : Kcc m2 m3 := Kc_tr (PCG_k (PCG_I (m := m2) PCG_rf (Or.inr (Or.inr rfl)) : PCG m2 (advc m2 q'))) (PCG_k st4.2.2.2.1)
      have kcF : Kcc m3 (adN m3 n3 21 (I (q' : Nat)) (I (μ : Nat)) (I (xr : Nat)) 0) := PCG_k (PCG_add PCG_rf)
      have sw := st.2.2.2.2.1
      refine ⟨p4, n3 + 1, n3 + 1, sc4, max X X1, mrg (q' + 1) W W1, R1 || Rf1, Zf || Zf1, _, rfl, ⟨by omega, Nat.le_refl _⟩, by omega, s3, adN_nod.2, ?_, PTX_der b7 hn (by omega) (Nat.le_refl _) (by omega) (by decide) (by decide) (by decide) (fun _ z => Or.inl z) (Or.inr (Or.inr k36)), 21, ?_, by decide, fun z => absurd z (by decide), fun _ z => ?_, q', by omega, ?_⟩
      · cases gd with
        | true =>
          rw [hR1 rfl, Bool.true_or]
          exact exn_ng (kd := 21) (by unfold CMK; omega) ⟨by decide, by decide⟩ hn (by omega) (by omega) (Nat.le_refl _) (by omega)
        | false =>
          rw [hR2 rfl]
          refine EXN_bc (fun m => BCo_or) ?_
          exact exn_snd (gd := false) (q := p) (q2 := q') (q3 := q' + 1) (q4 := p4) (sc1 := sc2) (m0 := m2) (l0 := n) (n0 := n2) (m1 := m3) (li := n2) (n1 := n3) hn (by omega) (by omega) (Nat.le_refl _) (by omega) ⟨Nat.le_refl _, by omega, by omega, by omega, Nat.le_refl _⟩ (fun j h1 h2 => absurd h2 (by omega)) (fun j h1 h2 => by rw [show j = q' by omega]; omega) (fun j h1 h2 => absurd h2 (by omega)) (EXN_w (fun j _ h2 => mrg_l (by omega)) b6) (Nat.le_refl _) (KPO_tr st4.2.2.1 adN_o (by omega)) (Kc_tr kc kcF) (by omega) (EXN_w (fun j h1 _ => mrg_r (by omega)) d6) (by omega) adN_o kcF (by omega) BCo_st ⟨sw.2.2.2.1.1, SCX_len sw.2.1, sw.2.2.2.1.2⟩
      · rw [adN_16, upd_at]; rfl
      · by_cases z1 : kk = 1
        · rw [← (k3 z1).2.1, k36]; exact Or.inr (Or.inr rfl)
        · exact Or.inl (k4 z1 z)
      · rw [adN_17, upd_at]
    · have hz : FLW u2 := hz
      refine pk_bnd (pk_mo (node_p (N := N)) (fun u4 r4 h4 => ?_))
      obtain ⟨av, -, -, -, h4, -⟩ := h4
      refine pk_some (fgt_fl ?_)
      show u4.1 67 ≠ 0
      rw [h4 67 (by decide)]
      exact hz
  cases gd with
  | false =>
    show PP _ _ (br true _ _)
    rw [br_tq]
    exact go u Rf (fun z => Bool.noConfusion z) (fun _ => rfl) st rfl rfl rfl
  | true =>
    show PP _ _ (br false _ _)
    rw [br_fq]
    refine r_bnd (pk_mo (rule_p (by decide)) (fun xC _ h => ?_))
    exact go xC true (fun _ => rfl) (fun z => Bool.noConfusion z) (STQ_rule st h.1 h.2.1 h.2.2) (h.2.1 70 (by decide) (by decide)) (h.2.1 73 (by decide) (by decide)) (h.2.1 69 (by decide) (by decide))
theorem s39_fl (h : FLW u) : PK (fun w2 (_ : Int32) => FLW w2) (fb_M_simple_39 N S () u r) := by
  unfold fb_M_simple_39
  rw [decide_eq_false h, br_fq]
  exact pk_some (fgt_fl h)
theorem HSi_s (c : CTZ m0 w0 K T nm Nk) (c45 : ∀ p, p ≤ T → K p ≠ 45) (hW : HWo N m0 w0 K T nm Nk d) (hB : ∀ d', d' ≤ d → HBh N m0 w0 K T nm Nk d') : HSi N m0 w0 K T nm Nk (d + 1) := by
  intro D m w p n sc gd o h hn hn2 hR nd h70 ho hg
  show PP _ _ (fb_M_simple_0 N (rc_M_behind N d) () w)
  have hl : 1 ≤ sc.length ∧ sc.length ≤ 27 := hR.2.1
  unfold fb_M_simple_0
  refine r_bnd (pk_mo (save_p hR) (fun vS _ hs => ?_))
  obtain ⟨i1, i2⟩ := SVG_e hs
  have rS : RNs vS sc := RNs_e hR (i1 65 (by decide) (by decide)) (fun k _ _ => i2 k (by omega) (by omega))
  have nS : ND vS := by
    obtain ⟨a, h1, h2⟩ := nd
    exact ⟨a, by rw [i1 32 (by decide) (by decide)]; exact h1, h2⟩
  have lS : RLP m0 w0 T p m vS := ⟨h.1, Kt_tr h.2.1 ⟨fun k hk => i1 k (by rintro rfl; revert hk; decide) (by rintro rfl; revert hk; decide), fun k hk => i2 k (by rintro rfl; revert hk; decide) (by rintro rfl; revert hk; decide)⟩, h.2.2.1, by rw [i1 69 (by decide) (by decide)]; exact h.2.2.2.1, h.2.2.2.2.1, by rw [i1 70 (by decide) (by decide)]; exact h.2.2.2.2.2.1, by rw [i1 67 (by decide) (by decide)]; exact h.2.2.2.2.2.2⟩
  have w69 : w.1 69 = I (p : Nat) := h.2.2.2.1
  refine pp_bTn (hW D m vS p n sc gd o lS hn hn2 rS nS (by rw [i1 70 (by decide) (by decide)]; exact h70) ho (by rw [i1 73 (by decide) (by decide)]; exact hg)) (fun m2 ξ u r hE => ?_) (fun m2 k u r hE => ?_)
  · cases D with
    | zero => exact pp_nl
    | succ D =>
      show PP _ (hb_Pa_matched_0 N (hrc_Pa_matched N D) () m2 ξ) _
      obtain ⟨q, n2, μ, sc2, X, W, Rf, Zf, CL, b1, b2, b3, st, b5⟩ := id hE
      have hc := RLP_c c st.1
      have hwp := RLP_w c st.1
      have u67 : u.1 67 = 0 := st.1.2.2.2.2.2.2
      have uq := st.1.2.2.2.1
      have qT := st.1.2.2.2.2.1
      have k46 := hc.1.1.k46 hc.2.2
      unfold hb_Pa_matched_0
      rw [look_e hc (c45 _ qT), bTm_l, decide_eq_true u67, br_tq, isS_e (k := 30) (s := 11) hwp (by decide) rfl, bnd_s, I_dn (a := K q) (b := 30) (s := 30) (by omega) (by decide) rfl, I_dn (a := K q) (b := 36) (s := 36) (by omega) (by decide) rfl]
      by_cases z30 : K q = 30
      · rw [decide_eq_true z30, br_tq, if_pos z30, show decide ((1 : Int32) = 0) = false from rfl, br_fq]
        refine pp_map (f := fgt) (fun u r => s97) ?_
        rw [w69]
        cases d with
        | zero => exact pp_nr
        | succ d => exact mat_pp c (hB d (by omega)) h hR hn2 h70 ho hg hs hE uq z30 qT
      · rw [decide_eq_false z30, br_fq, if_neg z30, show decide ((0 : Int32) = 0) = true from rfl, br_tq]
        by_cases z36 : K q = 36
        · rw [decide_eq_true z36, br_tq]
          exact snd_pp c (hB d (Nat.le_refl _)) h hR hn2 h70 ho hg hs hE uq z36 qT
        · rw [decide_eq_false z36, br_fq]
          unfold fb_M_simple_39
          rw [decide_eq_true u67, br_tq, isS_e (k := 36) (s := 21) hwp (by decide) rfl, bnd_s, if_neg z36, show decide ((0 : Int32) = 0) = true from rfl, br_tq, s97]
          exact pp_end (EXZ_fg hE hs hl.2 h)
  · have hE : FLW u := hE
    rw [decide_eq_false hE, br_fq]
    exact s39_fl hE
end
end
section
set_option maxRecDepth 100000
section
variable {α : Type} {R : MS → α → MS → Int32 → Prop} {A : Option (MS × α)} {m0 w0 m w v u m2 m3 w2 x y z xB xC mF vS mB wB : MS} {K nm Nk W W1 W2 WA WB : Nat → Nat} {T p n N q X Y X1 X2 XA n2 n3 lo p2 p4 ν μ a b L L' k d o M D s : Nat} {sc sc1 sc2 sc3 sc4 sc5 t t2 t3 t4 t5 : SCT} {e e2 e3 e4 e5 : List Nat × List Nat × Nat} {gd Rf Rg Zf : Bool} {BC : MS → Prop} {v1 v2 r ξ : Int32} {S : SG_M_behind} {NC : Nat → Prop} {CL CM : Int32 × Int32 × Int32 → Prop}
theorem i_back {x : Int32} : x + 1 - 1 = x := by
  rw [Int32.sub_eq_add_neg, Int32.add_assoc]
  show x + (1 + -1) = x
  rw [show (1 : Int32) + -1 = 0 from rfl, Int32.add_zero]
theorem kc_666 {y : Int32} : Kcc m (upI m 666 y) := ⟨fun k hk => upI_ne (by omega), fun _ _ => rfl⟩
theorem kx_666 {y : Int32} : KPX lo n2 ν m2 (upI m2 666 y) := ⟨fun _ _ _ => ⟨rfl, fun _ => rfl⟩, kc_666⟩
theorem STQ_70 (h : STQ m0 w0 K T Nk gd (upI m 666 (m.1 666 + 1)) (upI w 70 (w.1 70 + 1)) p n sc s m2 w2 q n2 sc2 X W Rf Zf CL) (hm : m.1 666 = w.1 70) : STQ m0 w0 K T Nk gd m w p n sc s (upI m2 666 (m2.1 666 - 1)) (upI w2 70 (w2.1 70 - 1)) q n2 sc2 X W Rf Zf CL := by
  obtain ⟨s1, s2, s3, s4, s5, s6, s7⟩ := h
  have a1 : m2.1 666 - 1 = m.1 666 := by rw [s4.1 666 (by decide), upI_at, i_back]
  have a2 : w2.1 70 - 1 = w.1 70 := by rw [s5.2.2.2.2.2.2.1.1 70 (by decide), upI_at, i_back]
  obtain ⟨c1, c2, c3, c4, c5, c6, c7⟩ := s1
  refine ⟨⟨Kc_tr c1 kc_666, Kt_I c2 (by decide), by rw [upI_ne (by decide)]; exact c3, by rw [upI_ne (by decide)]; exact c4, c5, by rw [upI_at, upI_at, a1, a2]; exact hm, by rw [upI_ne (by decide)]; exact c7⟩, ⟨s2.1, by rw [upI_ne (by decide)]; exact s2.2.1, s2.2.2⟩, s3, PCG_666 s4 a1, STW_k (Or.inl rfl) s5 a2, s6, s7⟩
theorem EXZ_70 (h : EXZ N m0 w0 K T nm Nk p n gd sc o NC (upI m 666 (m.1 666 + 1)) (upI w 70 (w.1 70 + 1)) m2 (.inl ξ) w2 r) (hm : m.1 666 = w.1 70) : EXZ N m0 w0 K T nm Nk p n gd sc o NC m w (upI m2 666 (m2.1 666 - 1)) (.inl ξ) (upI w2 70 (w2.1 70 - 1)) v1 := by
  obtain ⟨q, n2, μ, sc2, X, W, Rf, Zf, CL, b1, b2, b3, b4, b5, b6, b7, b8⟩ := h
  exact ⟨q, n2, μ, sc2, X, W, Rf, Zf, CL, b1, b2, b3, STQ_70 b4 hm, b5, EXN_up kx_666 (Nat.le_refl _) (Nat.le_refl _) b6, PTX_up b7 kx_666 (Nat.le_refl _) (Nat.le_refl _) (fun _ z => z), b8⟩
theorem RLP_70 (h : RLP m0 w0 T p m w) : RLP m0 w0 T p (upI m 666 (m.1 666 + 1)) (upI w 70 (w.1 70 + 1)) := by
  obtain ⟨c1, c2, c3, c4, c5, c6, c7⟩ := h
  exact ⟨Kc_tr c1 kc_666, Kt_I c2 (by decide), by rw [upI_ne (by decide)]; exact c3, by rw [upI_ne (by decide)]; exact c4, c5, by rw [upI_at, upI_at, c6], by rw [upI_ne (by decide)]; exact c7⟩
theorem lt25 (h : w.1 70 = I (o : Nat)) (ho : o ≤ 25) : w.1 70 < 25 ↔ o < 25 := by
  rw [h, show (25 : Int32) = I ((25 : Nat) : Int) from rfl, I_lt (by omega) (by omega) (by omega) (by omega)]
  omega
theorem sim_pp (hS : HSi N m0 w0 K T nm Nk d) (h : RLP m0 w0 T p m w) (hn : m.1 306 = I (n : Nat)) (hn2 : n ≤ 2 * p) (hR : RNs w sc) (nd : ND w) (h70 : w.1 70 = I (o : Nat)) (ho : o < 25) (hg : decide (w.1 73 = 0) = !gd) : PP (EXZ N m0 w0 K T nm Nk p n gd sc o NC1 m w) (bTm ((hrc_Pa_matched N D).2.2.2.2.2.2.2.2.2.2.2.2.2.1 (upI m 666 (m.1 666 + 1))) (fun u5 r5 => bTm ((hrc_Pa_matched N D).1 u5 r5) (fun u6 r6 => hb_Pa_expression_84 N (hrc_Pa_matched N D) () u6 r6))) (bnd ((rc_M_behind N d).2.2.2.2.2.2.2.2.2.2.2.2.1 (upI w 70 (w.1 70 + 1))) (fun u3 r3 => lt (upI u3 70 (u3.1 70 - 1)) (fun w4 => some (w4, r3)))) := by
  rw [← bTm_as]
  obtain ⟨av, hav, hav2⟩ := nd
  refine pp_bTn (hS D _ _ p n sc gd o (RLP_70 h) (by rw [upI_ne (by decide)]; exact hn) hn2 (RNs_e hR (upI_ne (by decide)) (fun _ _ _ => rfl)) ⟨av, by rw [upI_ne (by decide)]; exact hav, hav2⟩ (by rw [upI_at, h70]; exact i_suc) (by omega) (by rw [upI_ne (by decide)]; exact hg)) (fun m2 ξ u r hE => ?_) (fun m2 k u r hE => ?_)
  · exact pp_end (EXZ_70 hE h.2.2.2.2.2.1)
  · have hE : FLW u := hE
    refine pk_ltq (pk_some ?_)
    show (upI u 70 _).1 67 ≠ 0
    rw [upI_ne (by decide)]
    exact hE
theorem HBh_s (c : CTZ m0 w0 K T nm Nk) (c45 : ∀ p, p ≤ T → K p ≠ 45) (hS : HSi N m0 w0 K T nm Nk d) : HBh N m0 w0 K T nm Nk (d + 1) := by
  intro D m w p n sc gd o h hn hn2 hR nd h70 ho hg
  cases D with
  | zero => exact pp_nl
  | succ D =>
    show PP _ (hb_Pa_expression_0 N (hrc_Pa_matched N D) () m 0) (fb_M_behind_0 N (rc_M_behind N d) () w)
    have hc := RLP_c c h
    have hwp := RLP_w c h
    have h0 := h.2.2.2.2.2.2
    have k46 := hc.1.1.k46 hc.2.2
    unfold hb_Pa_expression_0 fb_M_behind_0 hb_Pa_expression_27 hb_Pa_expression_23 hb_Pa_expression_28
    rw [look_e hc (c45 _ h.2.2.2.2.1), bTm_l, bU_e k46, bnd_s, decide_eq_true h0, br_tq, bU_m hwp, bnd_s]
    cases hb : bUK (K p) with
    | false =>
      rw [show decide (b2c false = 0) = true from rfl, br_tq, br_tq, show decide ((0 : Int32) = 0) = true from rfl, br_tq]
      refine pp_rf (RFS_T (opens_0 hc)) (fun m' => ?_)
      exact pk_bnd (fun v r z => pk_some (wrong_s (u0 := w) (by decide) v r z))
    | true =>
      rw [show decide (b2c true = 0) = false from rfl, br_fq, br_fq]
      have k9 : K p ≠ 9 := fun z => by rw [z] at hb; cases hb
      by_cases z : o < 25
      · have zz := (lt25 h70 (by omega)).mpr z
        rw [opens_e (by rw [h.2.2.2.2.2.1]; exact zz), bTm_l, opn_e zz, bnd_s, I_dn (a := K p) (b := 9) (s := 9) (by omega) (by decide) rfl, decide_eq_false k9, br_fq]
        exact sim_pp hS h hn hn2 hR nd h70 z hg
      · have zz : ¬ w.1 70 < 25 := fun y => z ((lt25 h70 (by omega)).mp y)
        refine pp_rf (RFS_T (opens_x hc (by rw [h.2.2.2.2.2.1]; exact zz))) (fun m' => ?_)
        refine pk_bnd (pk_mo (opn_x zz) (fun v r y => ?_))
        intro v2 r2 e
        have y2 : Kfc v v := y
        refine (?_ : KfE v _) v2 r2 e
        obtain ⟨hF0, hF1, hF2, hF3, hF4, hF5, hF6, hF7, hF8, hF9, hF10, hF11, hF12, hF13, hF14, hF15, hF16⟩ := yf_rc_M_behind (u0 := v) (N := N) d
        repeat' (first | with_reducible assumption | with_reducible refine Kf_br ?_ ?_ | with_reducible refine Kf_bnd ?_ (fun _ _ _ => ?_) | with_reducible refine Kf_ck ?_ | with_reducible refine Kf_ltm ?_ (fun _ _ => ?_) | with_reducible refine Kf_some ?_ | with_reducible refine Kf_bo (fun _ => ?_) | with_reducible exact yf_fm_M_node (by assumption) | with_reducible exact yf_fm_M_pattern (by assumption) | with_reducible exact yf_fm_M_wrong (by assumption) | with_reducible exact yf_fm_M_rule (by assumption) | with_reducible exact yf_fm_M_isSign (by assumption) | with_reducible exact yf_fm_M_isWord (by assumption) | with_reducible exact yf_fm_M_takeSign (by assumption) | with_reducible exact yf_fm_M_takeWord (by assumption) | with_reducible exact yf_fm_M_needSign (by assumption) | with_reducible exact yf_fm_M_needWord (by assumption) | with_reducible exact yf_fm_M_opens (by assumption) | with_reducible exact yf_fm_M_boundIn (by assumption) | with_reducible exact yf_fr_M_found (by assumption) | with_reducible exact yf_fm_M_bind (by assumption) | with_reducible exact yf_fm_M_isUnderscore (by assumption) | with_reducible exact yf_fm_M_unbind (by assumption) | with_reducible exact yf_fm_M_term (by assumption) | with_reducible exact yf_fm_M_namePattern (by assumption) | with_reducible exact yf_fr_M_patternAt (by assumption) | with_reducible exact yf_fm_M_beginsUnit (by assumption) | with_reducible exact yf_fm_M_save (by assumption) | with_reducible exact yf_fm_M_addRoot (by assumption) | with_reducible exact yf_fm_M_level (by assumption) | with_reducible exact yf_fm_M_reduce (by assumption) | with_reducible exact yf_fm_M_takeBack (by assumption) | with_reducible exact yf_fm_M_forgetSaved (by assumption) | with_reducible exact yf_fr_M_last (by assumption) | with_reducible exact yf_fr_M_clause (by assumption) | with_reducible exact yf_fm_M_predefinedOf (by assumption) | with_reducible exact yf_fm_M_function0 (by assumption) | with_reducible exact yf_fm_M_program (by assumption) | with_reducible exact hF0 _ (by assumption) | with_reducible exact hF1 _ _ (by assumption) | with_reducible exact hF2 _ _ _ (by assumption) | with_reducible exact hF3 _ _ _ (by assumption) | with_reducible exact hF4 _ (by assumption) | with_reducible exact hF5 _ _ (by assumption) | with_reducible exact hF6 _ _ (by assumption) | with_reducible exact hF7 _ _ (by assumption) | with_reducible exact hF8 _ _ (by assumption) | with_reducible exact hF9 _ (by assumption) | with_reducible exact hF10 _ (by assumption) | with_reducible exact hF11 _ (by assumption) | with_reducible exact hF12 _ (by assumption) | with_reducible exact hF13 _ (by assumption) | with_reducible exact hF14 _ (by assumption) | with_reducible exact hF15 _ (by assumption) | with_reducible exact hF16 _ _ (by assumption) | with_reducible refine Kf_ltv (fun _ => ?_) | with_reducible refine Kf_I ?_ (by decide) | with_reducible refine Kf_A ?_ | with_reducible refine Kf_J ?_ | with_reducible refine Kf_L ?_)
end
end
section
set_option maxRecDepth 100000
section
variable {α : Type} {R : MS → α → MS → Int32 → Prop} {A : Option (MS × α)} {m0 w0 m w v u m2 m3 w2 x y z xB xC mF vS mB wB : MS} {K nm Nk W W1 W2 WA WB : Nat → Nat} {T p n N q X Y X1 X2 XA n2 n3 lo p2 p4 ν μ a b L L' k d o M D s : Nat} {sc sc1 sc2 sc3 sc4 sc5 t t2 t3 t4 t5 : SCT} {e e2 e3 e4 e5 : List Nat × List Nat × Nat} {gd Rf Rg Zf : Bool} {BC : MS → Prop} {v1 v2 r ξ : Int32} {S : SG_M_behind} {NC : Nat → Prop} {CL CM : Int32 × Int32 × Int32 → Prop}
theorem STW_23 (h : STW Nk K p p2 sc sc2 X W Rf Zf CL w v) {j c : Nat} (h32 : w.1 32 = I (c : Nat)) (hc : c ≤ 100000) (hj : j < c) : v.2.2.1 23 j = w.2.2.1 23 j := by
  obtain ⟨f1, f2, f3, f4, f5, f6, f7, A0, B0, f8, f9, f10⟩ := h
  have e0 : A0 = c := by
    have := f8.1.symm.trans h32
    have := (I_eq (x := (A0 : Nat)) (y := (c : Nat)) (by omega) (by omega) (by omega) (by omega)).mp this
    omega
  subst e0
  exact (f10 j hj).1
theorem cat_pp (c : CTZ m0 w0 K T nm Nk) (hE : HE N m0 w0 K T nm Nk d) (hm : m.1 666 = w.1 70) {mi wi : MS} (emi : mi = upI m 666 (m.1 666 + 1)) (ewi : wi = upI w 70 (w.1 70 + 1)) (h : RLP m0 w0 T p mi wi) (hn : mi.1 306 = I (n : Nat)) (hn2 : n ≤ 2 * p) (hR : RNs wi sc) (nd : ND wi) (h70 : wi.1 70 = I ((o + 1 : Nat) : Int)) (ho : o + 1 ≤ 25) (hg : decide (wi.1 73 = 0) = !gd) (k9 : K p = 9) : PP (EXZ N m0 w0 K T nm Nk p n gd sc o NC1 m w) (bTm ((hrc_Pa_matched N D).2.2.2.2.2.2.2.2.2.2.2.2.2.2.1 (advc mi p) 1) (fun u10 r10 => bnd (hm_Tr_add N u10 19 (I (p : Nat)) r10 0 0) (fun u11 r11 => hb_Pa_expression_84 N (hrc_Pa_matched N D) () u11 r11))) (br (decide (wi.1 73 = 0)) (fb_M_expression_60 N (rc_M_behind N d) () wi) (bnd (fm_M_rule N wi 7 (wi.1 69)) (fun u13 _ => fb_M_expression_60 N (rc_M_behind N d) () u13))) := by
  have hl : 1 ≤ sc.length ∧ sc.length ≤ 27 := hR.2.1
  have T4 := c.1.1.1
  have pl : p < T := TWK_lt c h.2.2.2.2.1 (by omega) (by omega)
  have w69 := h.2.2.2.1
  cases sc with
  | nil => exact absurd hl.1 (by decide)
  | cons e t =>
  have e1400 : e.1.length ≤ 1400 := by
    have := hR.2.2.2.1
    have a := this.2.2.2.1
    have b := this.2.2.2.2.1
    omega
  have go : ∀ xC R1, (gd = true → R1 = true) → (gd = false → R1 = false) → STQ m0 w0 K T Nk gd mi wi p n (e :: t) 0 mi xC p n (e :: t) 0 (fun _ => 32) R1 false (fun _ => False) → xC.1 70 = wi.1 70 → xC.1 73 = wi.1 73 → xC.1 69 = wi.1 69 → PP (EXZ N m0 w0 K T nm Nk p n gd (e :: t) o NC1 m w) (bTm ((hrc_Pa_matched N D).2.2.2.2.2.2.2.2.2.2.2.2.2.2.1 (advc mi p) 1) (fun u10 r10 => bnd (hm_Tr_add N u10 19 (I (p : Nat)) r10 0 0) (fun u11 r11 => hb_Pa_expression_84 N (hrc_Pa_matched N D) () u11 r11))) (fb_M_expression_60 N (rc_M_behind N d) () xC) := fun xC R1 hR1 hR2 sC c70 c73 c69 => by
    unfold fb_M_expression_60
    refine r_bnd (pk_mo (node_s (kd := 19) (N := N) (by decide)) (fun u2 r2 h2 => ?_))
    obtain ⟨b1, b2, -, av, ⟨b3, b3'⟩, b4, b5, b6, b7⟩ := h2
    have s1 := STQ_s sC b1 b2
    rw [b2, c69, w69, i_suc]
    have s2 := STQ_ad s1 pl (by omega)
    have rn := STQ_rn s2
    have e65 : (adv u2 p).1 65 = I (t.length : Nat) := rn.1
    have n65 : ((adv u2 p).1 65).toNatClampNeg = t.length := by rw [e65]; exact tnI (n := t.length) rfl (by have : t.length + 1 ≤ 27 := hl.2; omega)
    have e60 : (adv u2 p).2.2.1 60 ((adv u2 p).1 65).toNatClampNeg = I (e.1.length : Nat) := by rw [n65]; exact rn.2.2.1.1.1
    refine r_lt (r_ck (fun _ => ?_))
    show PP _ _ (lt ((adv u2 p).2.2.1 60 ((adv u2 p).1 65).toNatClampNeg) (fun y4 => ck (inb r2 (ln 26)) (lt (upA (adv u2 p) 26 (upd ((adv u2 p).2.2.1 26) r2.toNatClampNeg y4)) _)))
    rw [e60]
    refine r_lt (r_ck (fun _ => r_lt ?_))
    rw [b7]
    have k23 : (adv u2 p).2.2.1 23 av ≠ 12 ∧ (adv u2 p).2.2.1 23 av ≠ 15 := by
      show u2.2.2.1 23 av ≠ 12 ∧ u2.2.2.1 23 av ≠ 15
      rw [b6]; decide
    have sm := SMS_B (k := 26) (x := I (e.1.length : Nat)) (SMS_rf (w := adv u2 p)) (Or.inr (Or.inl rfl)) k23
    generalize hw5 : upA (adv u2 p) 26 (upd ((adv u2 p).2.2.1 26) av (I (e.1.length : Nat))) = w5 at sm ⊢
    have i5 : ∀ k, k ≠ 69 → w5.1 k = u2.1 k := fun k hk => by rw [← hw5]; show (adv u2 p).1 k = _; unfold adv; rw [upI_ne hk]
    have w5_69 : w5.1 69 = (adv u2 p).1 69 := by rw [← hw5]; rfl
    have w5_23 : w5.2.2.1 23 av ≠ 12 ∧ w5.2.2.1 23 av ≠ 15 := by rw [← hw5, upA_no (by decide)]; exact k23
    clear hw5
    have s3 := STQ_s s2 sm w5_69
    have sb := s3.2.1
    have u73 : u2.1 73 = xC.1 73 := b1.1 73 (by decide)
    have u70 : u2.1 70 = xC.1 70 := b1.1 70 (by decide)
    refine pp_bTn (hE D (advc mi p) w5 (p + 1) n _ gd (o + 1) s3.1 s3.2.1.2.1 (by omega) (STQ_rn s3) (STQ_nd s3) (by rw [i5 70 (by decide), u70, c70]; exact h70) (by omega) (by rw [i5 73 (by decide), u73, c73]; exact hg)) (fun m3 v3 u6 r6 hz => ?_) (fun m3 k3 u6 r6 hz => ?_)
    · obtain ⟨p4, n3, xr, sc4, X1, W1, Rf1, Zf1, CL1, d1, d2, d3, st4, d5, d6, d7, d8⟩ := hz
      have nb := st4.2.1
      have := st4.1.2.2.2.2.1
      rw [d1, add_e st4.2.1.2.1 (by omega), bnd_s]
      have sx := st4.2.2.2.2.1.2.1
      cases sc4 with
      | nil => exact sx.elim
      | cons e4 t4 =>
      refine pp_l (pk_bnd (pk_mo (unb_p (STQ_rn st4) e1400) (fun u7 _ un => ?_)))
      refine pk_bnd (pk_mo (node_s (kd := 20) (N := N) (by decide)) (fun u8 r8 h8 => pk_ck (fun _ => pk_ltq (pk_some ?_))))
      have hnd : nod (adN m3 n3 19 (I (p : Nat)) (I (xr : Nat)) 0 0) (n3 + 1) = (I ((19 : Nat) : Int), I (p : Nat), I (xr : Nat), 0, 0) := adN_nod.1
      have kcF : Kcc m3 (adN m3 n3 19 (I (p : Nat)) (I (xr : Nat)) 0 0) := PCG_k (PCG_add PCG_rf)
      have s4 := STQ_tr s3 st4
      have s5 := STQ_cut (b := e.1.length) s4 (Nat.le_refl _) un (fun g z => by rw [hR1 g] at z; cases z)
      have s6 := STQ_s s5 h8.1 h8.2.1
      have x32 : w5.1 32 = I ((av + 1 : Nat) : Int) := by rw [i5 32 (by decide)]; exact b5
      have k6 : u6.2.2.1 23 av = w5.2.2.1 23 av := STW_23 st4.2.2.2.2.1 x32 (by omega) (by omega)
      have k8 : u8.2.2.1 23 av ≠ 12 ∧ u8.2.2.1 23 av ≠ 15 := by
        have st6 := st4.2.2.2.2.1
        obtain ⟨f1, f2, f3, f4, f5, f6, f7, A0, B0, f8, f9, f10⟩ := st6
        have hA : A0 = av + 1 := by
          have := f8.1.symm.trans x32
          have := (I_eq (x := (A0 : Nat)) (y := ((av + 1 : Nat) : Int)) (by omega) (by omega) (by omega) (by omega)).mp this
          omega
        obtain ⟨B1, y1, y2, y3⟩ := un.2.2.2.2 B0 f8.2.1 (by omega)
        obtain ⟨B2, z1, z2, z3⟩ := h8.1.2.2 B1 y1.1 (by omega)
        have a1 := (y2 av (by omega)).1
        have a2 := (z2 av (by omega)).1
        rw [a2, a1, k6]
        exact w5_23
      have s7 := STQ_s s6 (SMS_B (k := 25) (x := u8.1 32) (SMS_rf (w := u8)) (Or.inl rfl) k8) rfl
      have s8 := STQ_add (a := 19) (b := I (p : Nat)) (c := I (xr : Nat)) (d := 0) (f := 0) (STQ_s2 s7 (by omega : 1 + 1 ≤ _))
      subst emi
      subst ewi
      refine EXZ_70 (r := r8) ?_ hm
      refine ⟨p4, n3 + 1, n3 + 1, _, _, _, _, _, CL1, rfl, ⟨by omega, Nat.le_refl _⟩, by omega, STQ_cl (fun x => ⟨fun z => z.elim False.elim id, Or.inr⟩) s8, adN_nod.2, ?_, PTX_no hnd (by omega) (Nat.le_refl _) (by omega) (by decide) (by decide) (by decide) (by rw [k9]; rfl), 19, ?_, by decide, fun z => absurd z (by decide), fun _ z => ?_, p, by omega, ?_⟩
      · cases gd with
        | true =>
          rw [hR1 rfl, Bool.true_or]
          exact exn_ng (kd := 19) (by unfold CMK; omega) ⟨by decide, by decide⟩ hnd (by omega) (by omega) (Nat.le_refl _) (by omega)
        | false =>
          rw [hR2 rfl, Bool.false_or, Bool.false_or, Nat.zero_max]
          exact exn_cat (gd := false) (q := p + 1) (q2 := p4) hnd (by omega) (by omega) (Nat.le_refl _) (by omega) ⟨by omega, by omega, Nat.le_refl _⟩ (fun j h1 h2 => by rw [show j = p by omega]; omega) (fun j h1 h2 => absurd h2 (by omega)) (EXN_w (fun j h1 _ => mrg_r (by omega)) d6) (by omega) adN_o kcF (by omega) sx BCo_st
      · rw [adN_16, upd_at]; rfl
      · rw [k9] at z; cases z
      · rw [adN_17, upd_at]
    · have hz : Kfc u6 u6 := hz
      refine Kf_pk (u0 := u6) ?_
      unfold fb_M_expression_137
      obtain ⟨hF0, hF1, hF2, hF3, hF4, hF5, hF6, hF7, hF8, hF9, hF10, hF11, hF12, hF13, hF14, hF15, hF16⟩ := yf_rc_M_behind (u0 := u6) (N := N) d
      repeat' (first | with_reducible assumption | with_reducible refine Kf_br ?_ ?_ | with_reducible refine Kf_bnd ?_ (fun _ _ _ => ?_) | with_reducible refine Kf_ck ?_ | with_reducible refine Kf_ltm ?_ (fun _ _ => ?_) | with_reducible refine Kf_some ?_ | with_reducible refine Kf_bo (fun _ => ?_) | with_reducible exact yf_fm_M_node (by assumption) | with_reducible exact yf_fm_M_pattern (by assumption) | with_reducible exact yf_fm_M_wrong (by assumption) | with_reducible exact yf_fm_M_rule (by assumption) | with_reducible exact yf_fm_M_isSign (by assumption) | with_reducible exact yf_fm_M_isWord (by assumption) | with_reducible exact yf_fm_M_takeSign (by assumption) | with_reducible exact yf_fm_M_takeWord (by assumption) | with_reducible exact yf_fm_M_needSign (by assumption) | with_reducible exact yf_fm_M_needWord (by assumption) | with_reducible exact yf_fm_M_opens (by assumption) | with_reducible exact yf_fm_M_boundIn (by assumption) | with_reducible exact yf_fr_M_found (by assumption) | with_reducible exact yf_fm_M_bind (by assumption) | with_reducible exact yf_fm_M_isUnderscore (by assumption) | with_reducible exact yf_fm_M_unbind (by assumption) | with_reducible exact yf_fm_M_term (by assumption) | with_reducible exact yf_fm_M_namePattern (by assumption) | with_reducible exact yf_fr_M_patternAt (by assumption) | with_reducible exact yf_fm_M_beginsUnit (by assumption) | with_reducible exact yf_fm_M_save (by assumption) | with_reducible exact yf_fm_M_addRoot (by assumption) | with_reducible exact yf_fm_M_level (by assumption) | with_reducible exact yf_fm_M_reduce (by assumption) | with_reducible exact yf_fm_M_takeBack (by assumption) | with_reducible exact yf_fm_M_forgetSaved (by assumption) | with_reducible exact yf_fr_M_last (by assumption) | with_reducible exact yf_fr_M_clause (by assumption) | with_reducible exact yf_fm_M_predefinedOf (by assumption) | with_reducible exact yf_fm_M_function0 (by assumption) | with_reducible exact yf_fm_M_program (by assumption) | with_reducible exact hF0 _ (by assumption) | with_reducible exact hF1 _ _ (by assumption) | with_reducible exact hF2 _ _ _ (by assumption) | with_reducible exact hF3 _ _ _ (by assumption) | with_reducible exact hF4 _ (by assumption) | with_reducible exact hF5 _ _ (by assumption) | with_reducible exact hF6 _ _ (by assumption) | with_reducible exact hF7 _ _ (by assumption) | with_reducible exact hF8 _ _ (by assumption) | with_reducible exact hF9 _ (by assumption) | with_reducible exact hF10 _ (by assumption) | with_reducible exact hF11 _ (by assumption) | with_reducible exact hF12 _ (by assumption) | with_reducible exact hF13 _ (by assumption) | with_reducible exact hF14 _ (by assumption) | with_reducible exact hF15 _ (by assumption) | with_reducible exact hF16 _ _ (by assumption) | with_reducible refine Kf_ltv (fun _ => ?_) | with_reducible refine Kf_I ?_ (by decide) | with_reducible refine Kf_A ?_ | with_reducible refine Kf_J ?_ | with_reducible refine Kf_L ?_)
  rw [hg]
  cases gd with
  | false =>
    show PP _ _ (br true _ _)
    rw [br_tq]
    exact go wi false (fun z => Bool.noConfusion z) (fun _ => rfl) (STQ_0 h hn hR nd) rfl rfl rfl
  | true =>
    show PP _ _ (br false _ _)
    rw [br_fq]
    refine r_bnd (pk_mo (rule_p (by decide)) (fun xC _ hx => ?_))
    exact go xC true (fun _ => rfl) (fun z => Bool.noConfusion z) (STQ_rule (STQ_0 h hn hR nd) hx.1 hx.2.1 hx.2.2) (hx.2.1 70 (by decide) (by decide)) (hx.2.1 73 (by decide) (by decide)) (hx.2.1 69 (by decide) (by decide))
theorem HE_s (c : CTZ m0 w0 K T nm Nk) (c45 : ∀ p, p ≤ T → K p ≠ 45) (hS : HSi N m0 w0 K T nm Nk d) (hE : HE N m0 w0 K T nm Nk d) : HE N m0 w0 K T nm Nk (d + 1) := by
  intro D m w p n sc gd o h hn hn2 hR nd h70 ho hg
  cases D with
  | zero => exact pp_nl
  | succ D =>
    show PP _ (hb_Pa_expression_0 N (hrc_Pa_matched N D) () m 1) (fb_M_expression_0 N (rc_M_behind N d) () w)
    have hc := RLP_c c h
    have hwp := RLP_w c h
    have h0 := h.2.2.2.2.2.2
    have k46 := hc.1.1.k46 hc.2.2
    unfold hb_Pa_expression_0 fb_M_expression_0 hb_Pa_expression_27 hb_Pa_expression_23 hb_Pa_expression_28
    rw [look_e hc (c45 _ h.2.2.2.2.1), bTm_l, bU_e k46, bnd_s, decide_eq_true h0, br_tq, bU_m hwp, bnd_s, I_dn (a := K p) (b := 9) (s := 9) (by omega) (by decide) rfl, show decide ((1 : Int32) = 0) = false from rfl]
    have flt : ∀ {v : MS} {F : MS → Unit → Option (MS × Int32)}, (∀ u r, FLW u → PK (fun w2 (_ : Int32) => FLW w2) (F u r)) → ¬ w.1 70 < 25 → PK (fun v2 (_ : Int32) => FLW v2) (bnd (fm_M_opens N w) F) := fun {v F} hF zz => pk_bnd (pk_mo (opn_x zz) (fun u r y => hF u r y))
    have go : (bUK (K p) = true ∨ K p = 9) → PP (EXZ N m0 w0 K T nm Nk p n gd sc o NC1 m w) (bTm (hm_Pa_opens N m 1) (fun u3 r3 => br (decide (K p = 9)) (lt (upI u3 665 (u3.1 665 + 1)) (fun w8 => bTm ((hrc_Pa_matched N D).2.2.2.2.2.2.2.2.2.2.2.2.2.2.1 w8 1) (fun u10 r10 => bnd (hm_Tr_add N u10 19 (u3.1 665) r10 0 0) (fun u11 r11 => hb_Pa_expression_84 N (hrc_Pa_matched N D) () u11 r11)))) (bTm ((hrc_Pa_matched N D).2.2.2.2.2.2.2.2.2.2.2.2.2.1 u3) (fun u5 r5 => bTm ((hrc_Pa_matched N D).1 u5 r5) (fun u6 r6 => hb_Pa_expression_84 N (hrc_Pa_matched N D) () u6 r6))))) (fb_M_expression_31 N (rc_M_behind N d) () w) := fun hb => by
      unfold fb_M_expression_31
      by_cases z : o < 25
      · have zz := (lt25 h70 (by omega)).mpr z
        have rl := RLP_70 h
        have hw2 := RLP_w c rl
        rw [opens_e (by rw [h.2.2.2.2.2.1]; exact zz), bTm_l, opn_e zz, bnd_s, isV_e (k := 9) (s := 4) hw2 (by decide) rfl, bnd_s]
        by_cases z9 : K p = 9
        · rw [decide_eq_true z9, br_tq, if_pos z9, show decide ((1 : Int32) = 0) = false from rfl, br_fq, rl.2.2.1, i_suc]
          obtain ⟨av, hav, hav2⟩ := nd
          exact cat_pp (D := D) c hE h.2.2.2.2.2.1 rfl rfl rl (by rw [upI_ne (by decide)]; exact hn) hn2 (RNs_e hR (upI_ne (by decide)) (fun _ _ _ => rfl)) ⟨av, by rw [upI_ne (by decide)]; exact hav, hav2⟩ (by rw [upI_at, h70]; exact i_suc) (by omega) (by rw [upI_ne (by decide)]; exact hg) z9
        · rw [decide_eq_false z9, br_fq, if_neg z9, show decide ((0 : Int32) = 0) = true from rfl, br_tq]
          exact sim_pp hS h hn hn2 hR nd h70 z hg
      · have zz : ¬ w.1 70 < 25 := fun y => z ((lt25 h70 (by omega)).mp y)
        refine pp_rf (RFS_T (opens_x hc (by rw [h.2.2.2.2.2.1]; exact zz))) (fun m' => ?_)
        refine pk_bnd (pk_mo (opn_x zz) (fun v r y => ?_))
        refine Kf_pk (u0 := v) ?_
        have y2 : Kfc v v := y
        obtain ⟨hF0, hF1, hF2, hF3, hF4, hF5, hF6, hF7, hF8, hF9, hF10, hF11, hF12, hF13, hF14, hF15, hF16⟩ := yf_rc_M_behind (u0 := v) (N := N) d
        repeat' (first | with_reducible assumption | with_reducible refine Kf_br ?_ ?_ | with_reducible refine Kf_bnd ?_ (fun _ _ _ => ?_) | with_reducible refine Kf_ck ?_ | with_reducible refine Kf_ltm ?_ (fun _ _ => ?_) | with_reducible refine Kf_some ?_ | with_reducible refine Kf_bo (fun _ => ?_) | with_reducible exact yf_fm_M_node (by assumption) | with_reducible exact yf_fm_M_pattern (by assumption) | with_reducible exact yf_fm_M_wrong (by assumption) | with_reducible exact yf_fm_M_rule (by assumption) | with_reducible exact yf_fm_M_isSign (by assumption) | with_reducible exact yf_fm_M_isWord (by assumption) | with_reducible exact yf_fm_M_takeSign (by assumption) | with_reducible exact yf_fm_M_takeWord (by assumption) | with_reducible exact yf_fm_M_needSign (by assumption) | with_reducible exact yf_fm_M_needWord (by assumption) | with_reducible exact yf_fm_M_opens (by assumption) | with_reducible exact yf_fm_M_boundIn (by assumption) | with_reducible exact yf_fr_M_found (by assumption) | with_reducible exact yf_fm_M_bind (by assumption) | with_reducible exact yf_fm_M_isUnderscore (by assumption) | with_reducible exact yf_fm_M_unbind (by assumption) | with_reducible exact yf_fm_M_term (by assumption) | with_reducible exact yf_fm_M_namePattern (by assumption) | with_reducible exact yf_fr_M_patternAt (by assumption) | with_reducible exact yf_fm_M_beginsUnit (by assumption) | with_reducible exact yf_fm_M_save (by assumption) | with_reducible exact yf_fm_M_addRoot (by assumption) | with_reducible exact yf_fm_M_level (by assumption) | with_reducible exact yf_fm_M_reduce (by assumption) | with_reducible exact yf_fm_M_takeBack (by assumption) | with_reducible exact yf_fm_M_forgetSaved (by assumption) | with_reducible exact yf_fr_M_last (by assumption) | with_reducible exact yf_fr_M_clause (by assumption) | with_reducible exact yf_fm_M_predefinedOf (by assumption) | with_reducible exact yf_fm_M_function0 (by assumption) | with_reducible exact yf_fm_M_program (by assumption) | with_reducible exact hF0 _ (by assumption) | with_reducible exact hF1 _ _ (by assumption) | with_reducible exact hF2 _ _ _ (by assumption) | with_reducible exact hF3 _ _ _ (by assumption) | with_reducible exact hF4 _ (by assumption) | with_reducible exact hF5 _ _ (by assumption) | with_reducible exact hF6 _ _ (by assumption) | with_reducible exact hF7 _ _ (by assumption) | with_reducible exact hF8 _ _ (by assumption) | with_reducible exact hF9 _ (by assumption) | with_reducible exact hF10 _ (by assumption) | with_reducible exact hF11 _ (by assumption) | with_reducible exact hF12 _ (by assumption) | with_reducible exact hF13 _ (by assumption) | with_reducible exact hF14 _ (by assumption) | with_reducible exact hF15 _ (by assumption) | with_reducible exact hF16 _ _ (by assumption) | with_reducible exact yf_fb_M_expression_137 (by assumption) hF0 hF1 hF2 hF3 hF4 hF5 hF6 hF7 hF8 hF9 hF10 hF11 hF12 hF13 hF14 hF15 hF16 | with_reducible exact yf_fb_M_expression_60 (by assumption) hF0 hF1 hF2 hF3 hF4 hF5 hF6 hF7 hF8 hF9 hF10 hF11 hF12 hF13 hF14 hF15 hF16 | with_reducible exact yf_fb_M_expression_31 (by assumption) hF0 hF1 hF2 hF3 hF4 hF5 hF6 hF7 hF8 hF9 hF10 hF11 hF12 hF13 hF14 hF15 hF16 | with_reducible exact yf_fb_M_expression_0 (by assumption) hF0 hF1 hF2 hF3 hF4 hF5 hF6 hF7 hF8 hF9 hF10 hF11 hF12 hF13 hF14 hF15 hF16 | with_reducible refine Kf_ltv (fun _ => ?_) | with_reducible refine Kf_I ?_ (by decide) | with_reducible refine Kf_A ?_ | with_reducible refine Kf_J ?_ | with_reducible refine Kf_L ?_)
    cases hb : bUK (K p) with
    | false =>
      rw [show decide (b2c false = 0) = true from rfl, br_tq, br_tq, br_fq]
      by_cases z9 : K p = 9
      · rw [decide_eq_true z9, br_tq, isV_e (k := 9) (s := 4) hwp (by decide) rfl, bnd_s, if_pos z9, show decide ((1 : Int32) = 0) = false from rfl, br_fq]
        have := go (Or.inr z9)
        rw [decide_eq_true z9] at this
        exact this
      · rw [decide_eq_false z9, br_fq, isV_e (k := 9) (s := 4) hwp (by decide) rfl, bnd_s, if_neg z9, show decide ((0 : Int32) = 0) = true from rfl, br_tq]
        refine pp_rf (RFS_T (opens_0 hc)) (fun m' => ?_)
        exact pk_bnd (fun v r z => pk_some (wrong_s (u0 := w) (by decide) v r z))
    | true =>
      rw [show decide (b2c true = 0) = false from rfl, br_fq, br_fq]
      exact go (Or.inl hb)
end
end
section
set_option maxRecDepth 100000
def Klc (u w : MS) : Prop := SMS u w ∧ w.1 69 = u.1 69
def KlE {α : Type} (u : MS) (o : Option (MS × α)) : Prop := ∀ w r, o = some (w, r) → Klc u w
section
variable {α β : Type} {u0 u w : MS} {k : Nat}
theorem Kl_none : KlE u0 (none : Option (MS × α)) := fun _ _ e => by cases e
theorem Kl_some {r : α} (h : Klc u0 w) : KlE u0 (some (w, r)) := fun _ _ e => by injection e with e; injection e with e1 _; exact e1 ▸ h
theorem Kl_br {b : Bool} {p q : Option (MS × α)} (h1 : KlE u0 p) (h2 : KlE u0 q) : KlE u0 (br b p q) := by cases b <;> assumption
theorem Kl_ck {b : Bool} {p : Option (MS × α)} (h1 : KlE u0 p) : KlE u0 (ck b p) := by
  cases b
  · exact Kl_none
  · exact h1
theorem Kl_bo {o : Option β} {f : β → Option (MS × α)} (h : ∀ j, KlE u0 (f j)) : KlE u0 (bo o f) := by
  cases o with
  | none => exact Kl_none
  | some j => exact h j
theorem Kl_bnd {o : Option (MS × β)} {f : MS → β → Option (MS × α)} (h1 : KlE u0 o) (h2 : ∀ w r, Klc u0 w → KlE u0 (f w r)) : KlE u0 (bnd o f) := by
  cases o with
  | none => exact Kl_none
  | some x => exact h2 x.1 x.2 (h1 x.1 x.2 rfl)
theorem Kl_T {o : Option (MS × (β ⊕ Nat))} {f : MS → β → Option (MS × (α ⊕ Nat))} (h1 : KlE u0 o) (h2 : ∀ w r, Klc u0 w → KlE u0 (f w r)) : KlE u0 (bTm o f) := by
  cases o with
  | none => exact Kl_none
  | some x =>
    obtain ⟨x, z⟩ := x
    cases z with
    | inl v => exact h2 x v (h1 x _ rfl)
    | inr k => exact Kl_some (h1 x _ rfl)
theorem Kl_H {o : Option (MS × (β ⊕ Nat))} {f : MS → β → Option (MS × α)} {g : MS → Option (MS × α)} (h1 : KlE u0 o) (h2 : ∀ w r, Klc u0 w → KlE u0 (f w r)) (h3 : ∀ w, Klc u0 w → KlE u0 (g w)) : KlE u0 (bHm o f g) := by
  cases o with
  | none => exact Kl_none
  | some x =>
    obtain ⟨x, z⟩ := x
    cases z with
    | inl v => exact h2 x v (h1 x _ rfl)
    | inr k =>
      show KlE u0 (if k = 3 then g x else none)
      split
      · exact h3 x (h1 x _ rfl)
      · exact Kl_none
theorem Kl_ltm {x : MS} {f : MS → Option (MS × α)} (h1 : Klc u0 x) (h2 : ∀ w, Klc u0 w → KlE u0 (f w)) : KlE u0 (lt x f) := h2 x h1
theorem Kl_ltv {x : β} {f : β → Option (MS × α)} (h2 : ∀ y, KlE u0 (f y)) : KlE u0 (lt x f) := h2 x
theorem Kl_I {v : Int32} (h : Klc u0 u) (hk : k ∉ SMI ∧ k ≠ 32 ∧ k ≠ 69) : Klc u0 (upI u k v) := ⟨SMS_I h.1 hk.1 hk.2.1, (upI_ne (fun e => hk.2.2 e.symm)).trans h.2⟩
theorem Kl_L {v : Int64} (h : Klc u0 u) : Klc u0 (upL u k v) := h
theorem Kl_J {v : Nat → Int64} (h : Klc u0 u) : Klc u0 (upJ u k v) := ⟨SMS_J h.1, h.2⟩
theorem Kl_A {v : Nat → Int32} (h : Klc u0 u) (hk : 28 ≤ k ∧ k ≤ 30) : Klc u0 (upA u k v) := ⟨SMS_A h.1 (by unfold SMX; omega) (by omega), h.2⟩
theorem Kl_rf : Klc u u := ⟨SMS_rf, rfl⟩
end
section
variable {u0 u : MS} {N : Nat}
theorem yl_fb_M_addRoot_24 {G : Unit} (h : Klc u0 u)  : KlE u0 (fb_M_addRoot_24 N G u) := by
  unfold fb_M_addRoot_24
  repeat' (first | with_reducible assumption | with_reducible refine Kl_br ?_ ?_ | with_reducible refine Kl_bnd ?_ (fun _ _ _ => ?_) | with_reducible refine Kl_ck ?_ | with_reducible refine Kl_ltm ?_ (fun _ _ => ?_) | with_reducible refine Kl_some ?_ | with_reducible refine Kl_bo (fun _ => ?_) | with_reducible refine Kl_T ?_ (fun _ _ _ => ?_) | with_reducible refine Kl_H ?_ (fun _ _ _ => ?_) (fun _ _ => ?_) | with_reducible refine Kl_ltv (fun _ => ?_) | with_reducible refine Kl_I ?_ (by decide) | with_reducible refine Kl_A ?_ (by decide) | with_reducible refine Kl_J ?_ | with_reducible refine Kl_L ?_)
theorem yl_fb_M_addRoot_0 {G : Unit} {v1 : Int32} {v2 : Int32} (h : Klc u0 u)  : KlE u0 (fb_M_addRoot_0 N G u v1 v2) := by
  unfold fb_M_addRoot_0
  repeat' (first | with_reducible assumption | with_reducible refine Kl_br ?_ ?_ | with_reducible refine Kl_bnd ?_ (fun _ _ _ => ?_) | with_reducible refine Kl_ck ?_ | with_reducible refine Kl_ltm ?_ (fun _ _ => ?_) | with_reducible refine Kl_some ?_ | with_reducible refine Kl_bo (fun _ => ?_) | with_reducible refine Kl_T ?_ (fun _ _ _ => ?_) | with_reducible refine Kl_H ?_ (fun _ _ _ => ?_) (fun _ _ => ?_) | with_reducible exact yl_fb_M_addRoot_24 (by assumption) | with_reducible refine Kl_ltv (fun _ => ?_) | with_reducible refine Kl_I ?_ (by decide) | with_reducible refine Kl_A ?_ (by decide) | with_reducible refine Kl_J ?_ | with_reducible refine Kl_L ?_)
theorem yl_fm_M_addRoot {v1 : Int32} {v2 : Int32} (h : Klc u0 u)  : KlE u0 (fm_M_addRoot N u v1 v2) := by
  unfold fm_M_addRoot
  exact yl_fb_M_addRoot_0 h
theorem yl_fb_M_last_42 {S : SG_M_last} {G : (MS → Int32 → Option (MS × Unit))} {v2 : Int32} (h : Klc u0 u) (hS0 : ∀ (u : MS) a0, Klc u0 u → KlE u0 (S u a0)) (hG0 : ∀ (u : MS) a0, Klc u0 u → KlE u0 (G u a0)) : KlE u0 (fb_M_last_42 N S G u v2) := by
  unfold fb_M_last_42
  repeat' (first | with_reducible assumption | with_reducible refine Kl_br ?_ ?_ | with_reducible refine Kl_bnd ?_ (fun _ _ _ => ?_) | with_reducible refine Kl_ck ?_ | with_reducible refine Kl_ltm ?_ (fun _ _ => ?_) | with_reducible refine Kl_some ?_ | with_reducible refine Kl_bo (fun _ => ?_) | with_reducible refine Kl_T ?_ (fun _ _ _ => ?_) | with_reducible refine Kl_H ?_ (fun _ _ _ => ?_) (fun _ _ => ?_) | with_reducible exact hS0 _ _ (by assumption) | with_reducible exact hG0 _ _ (by assumption) | with_reducible refine Kl_ltv (fun _ => ?_) | with_reducible refine Kl_I ?_ (by decide) | with_reducible refine Kl_A ?_ (by decide) | with_reducible refine Kl_J ?_ | with_reducible refine Kl_L ?_)
theorem yl_fb_M_last_35 {S : SG_M_last} {G : (MS → Int32 → Option (MS × Unit))} {v1 : Int32} (h : Klc u0 u) (hS0 : ∀ (u : MS) a0, Klc u0 u → KlE u0 (S u a0)) (hG0 : ∀ (u : MS) a0, Klc u0 u → KlE u0 (G u a0)) : KlE u0 (fb_M_last_35 N S G u v1) := by
  unfold fb_M_last_35
  repeat' (first | with_reducible assumption | with_reducible refine Kl_br ?_ ?_ | with_reducible refine Kl_bnd ?_ (fun _ _ _ => ?_) | with_reducible refine Kl_ck ?_ | with_reducible refine Kl_ltm ?_ (fun _ _ => ?_) | with_reducible refine Kl_some ?_ | with_reducible refine Kl_bo (fun _ => ?_) | with_reducible refine Kl_T ?_ (fun _ _ _ => ?_) | with_reducible refine Kl_H ?_ (fun _ _ _ => ?_) (fun _ _ => ?_) | with_reducible exact hS0 _ _ (by assumption) | with_reducible exact hG0 _ _ (by assumption) | with_reducible refine Kl_ltv (fun _ => ?_) | with_reducible refine Kl_I ?_ (by decide) | with_reducible refine Kl_A ?_ (by decide) | with_reducible refine Kl_J ?_ | with_reducible refine Kl_L ?_)
theorem yl_fb_M_last_28 {S : SG_M_last} {G : (MS → Int32 → Option (MS × Unit))} {v1 : Int32} (h : Klc u0 u) (hS0 : ∀ (u : MS) a0, Klc u0 u → KlE u0 (S u a0)) (hG0 : ∀ (u : MS) a0, Klc u0 u → KlE u0 (G u a0)) : KlE u0 (fb_M_last_28 N S G u v1) := by
  unfold fb_M_last_28
  repeat' (first | with_reducible assumption | with_reducible refine Kl_br ?_ ?_ | with_reducible refine Kl_bnd ?_ (fun _ _ _ => ?_) | with_reducible refine Kl_ck ?_ | with_reducible refine Kl_ltm ?_ (fun _ _ => ?_) | with_reducible refine Kl_some ?_ | with_reducible refine Kl_bo (fun _ => ?_) | with_reducible refine Kl_T ?_ (fun _ _ _ => ?_) | with_reducible refine Kl_H ?_ (fun _ _ _ => ?_) (fun _ _ => ?_) | with_reducible exact yl_fb_M_last_35 (by assumption) hS0 hG0 | with_reducible exact hS0 _ _ (by assumption) | with_reducible exact hG0 _ _ (by assumption) | with_reducible refine Kl_ltv (fun _ => ?_) | with_reducible refine Kl_I ?_ (by decide) | with_reducible refine Kl_A ?_ (by decide) | with_reducible refine Kl_J ?_ | with_reducible refine Kl_L ?_)
theorem yl_fb_M_last_0 {S : SG_M_last} {G : (MS → Int32 → Option (MS × Unit))} {v1 : Int32} (h : Klc u0 u) (hS0 : ∀ (u : MS) a0, Klc u0 u → KlE u0 (S u a0)) (hG0 : ∀ (u : MS) a0, Klc u0 u → KlE u0 (G u a0)) : KlE u0 (fb_M_last_0 N S G u v1) := by
  unfold fb_M_last_0
  repeat' (first | with_reducible assumption | with_reducible refine Kl_br ?_ ?_ | with_reducible refine Kl_bnd ?_ (fun _ _ _ => ?_) | with_reducible refine Kl_ck ?_ | with_reducible refine Kl_ltm ?_ (fun _ _ => ?_) | with_reducible refine Kl_some ?_ | with_reducible refine Kl_bo (fun _ => ?_) | with_reducible refine Kl_T ?_ (fun _ _ _ => ?_) | with_reducible refine Kl_H ?_ (fun _ _ _ => ?_) (fun _ _ => ?_) | with_reducible exact yl_fb_M_last_28 (by assumption) hS0 hG0 | with_reducible exact yl_fb_M_last_35 (by assumption) hS0 hG0 | with_reducible exact hS0 _ _ (by assumption) | with_reducible exact hG0 _ _ (by assumption) | with_reducible refine Kl_ltv (fun _ => ?_) | with_reducible refine Kl_I ?_ (by decide) | with_reducible refine Kl_A ?_ (by decide) | with_reducible refine Kl_J ?_ | with_reducible refine Kl_L ?_)
theorem yl_gg_M_last {S : SG_M_last} (hS0 : ∀ (u : MS) a0, Klc u0 u → KlE u0 (S u a0)) (n : Nat) : (∀ (u : MS) a0, Klc u0 u → KlE u0 ((gg_M_last N S n) u a0)) := by
  induction n with
  | zero => exact fun _ _ _ => Kl_none
  | succ n ih => exact fun _ _ h => yl_fb_M_last_42 (N := N) h hS0 ih
theorem yl_fm_M_last {S : SG_M_last} {v1 : Int32} (h : Klc u0 u) (hS0 : ∀ (u : MS) a0, Klc u0 u → KlE u0 (S u a0)) : KlE u0 (fm_M_last N S u v1) := by
  unfold fm_M_last
  exact yl_fb_M_last_0 h hS0 ((yl_gg_M_last (N := N) hS0 N))
theorem yl_rc_M_last  (n : Nat) : (∀ (u : MS) a0, Klc u0 u → KlE u0 ((rc_M_last N n) u a0)) := by
  induction n with
  | zero => exact fun _ _ _ => Kl_none
  | succ n ih => exact fun _ _ h => yl_fm_M_last (N := N) h ih
theorem yl_fr_M_last {v1 : Int32} (h : Klc u0 u) : KlE u0 (fr_M_last N u v1) := by
  unfold fr_M_last
  exact (yl_rc_M_last (N := N) 60) _ _ h
end
end
section
set_option maxRecDepth 100000
def BDZ (N : Nat) (m0 w0 : MS) (K : Nat → Nat) (T : Nat) (nm Nk : Nat → Nat) (p n : Nat) (sc : SCT) (m w m2 : MS) (z : Int32 ⊕ Nat) (w2 : MS) : Prop := match z with
  | .inr _ => FLW w2
  | .inl φ => ∃ (l : List Nat) (p2 n2 : Nat) (sc2 : SCT) (X : Nat) (W : Nat → Nat) (Rf Zf : Bool) (CL : Int32 × Int32 × Int32 → Prop), φ = I ((l.headD 0 : Nat) : Int) ∧ l ≠ [] ∧ p < p2 ∧ STQ m0 w0 K T Nk false m w p n sc 1 m2 w2 p2 n2 sc2 X W Rf Zf CL ∧ ERW N K nm false m2 n n2 W l p p2 sc sc2 X Rf Zf (BCo N CL) ∧ n < l.headD 0
def HBo (N : Nat) (m0 w0 : MS) (K : Nat → Nat) (T : Nat) (nm Nk : Nat → Nat) (d : Nat) : Prop := ∀ (D : Nat) (m w : MS) (p n : Nat) (sc : SCT) (o : Nat), RLP m0 w0 T p m w → m.1 306 = I (n : Nat) → n ≤ 2 * p → RNs w sc → ND w → w.1 70 = I (o : Nat) → o ≤ 25 → w.1 73 = 0 → PP (fun m2 z w2 (_ : Int32) => BDZ N m0 w0 K T nm Nk p n sc m w m2 z w2) ((hrc_Pa_matched N D).2.2.2.2.2.2.2.2.2.1 m) ((rc_M_behind N d).2.2.2.2.1 w)
def GDZ (N : Nat) (m0 w0 : MS) (K : Nat → Nat) (T : Nat) (nm Nk : Nat → Nat) (p n : Nat) (sc : SCT) (m w m2 : MS) (z : Int32 ⊕ Nat) (w2 : MS) : Prop := match z with
  | .inr _ => FLW w2
  | .inl φ => ∃ (l : List Nat) (p2 n2 : Nat) (sc2 sc3 : SCT) (X : Nat) (W : Nat → Nat) (Rf Zf : Bool) (CL : Int32 × Int32 × Int32 → Prop), φ = I ((l.headD 0 : Nat) : Int) ∧ l ≠ [] ∧ p < p2 ∧ STQ m0 w0 K T Nk false m w p n sc 1 m2 w2 p2 n2 sc3 X W Rf Zf CL ∧ ERW N K nm true m2 n n2 W l p p2 sc sc2 X Rf Zf (BCo N CL) ∧ (Rf = false → sc3 = sc2) ∧ nms sc3 = nms sc ∧ n < l.headD 0
def HGc (N : Nat) (m0 w0 : MS) (K : Nat → Nat) (T : Nat) (nm Nk : Nat → Nat) (d : Nat) : Prop := ∀ (D : Nat) (m w : MS) (p n : Nat) (sc : SCT) (o : Nat), RLP m0 w0 T p m w → m.1 306 = I (n : Nat) → n ≤ 2 * p → RNs w sc → ND w → w.1 70 = I (o : Nat) → o ≤ 25 → w.1 73 = 0 → PP (fun m2 z w2 (_ : Int32) => GDZ N m0 w0 K T nm Nk p n sc m w m2 z w2) ((hrc_Pa_matched N D).2.2.2.2.2.2.2.2.2.2.2.2.2.2.2.2.2.2.1 m 0 4000) ((rc_M_behind N d).2.2.2.2.2.2.2.2.2.2.2.2.2.2.1 w)
def fgU (o : Option (MS × Int32)) : Option (MS × Unit) := bnd o (fun u _ => some (u, ()))
def gcR (N : Nat) (S : SG_M_behind) (v1 v2 v3 : Int32) (M : Nat) (w : MS) : Option (MS × Int32) := bnd (fm_M_node N w 22 (w.1 69)) (fun u5 r5 => bnd (fm_M_takeSign N u5 6) (fun u6 r6 => gg_M_guardCode N S M u6 v1 v2 v3 r6))
section
variable {α : Type} {R : MS → α → MS → Int32 → Prop} {A : Option (MS × α)} {m0 w0 m w v u m2 m3 w2 x y z xB xC mF vS mB wB : MS} {K nm Nk W W1 W2 WA WB : Nat → Nat} {T p n N q X Y X1 X2 XA n2 n3 lo p2 p4 ν μ a b L L' k d o M D s : Nat} {sc sc1 sc2 sc3 sc4 sc5 t t2 t3 t4 t5 : SCT} {e e2 e3 e4 e5 : List Nat × List Nat × Nat} {gd Rf Rg Zf : Bool} {BC : MS → Prop} {v1 v2 v3 r ξ : Int32} {S : SG_M_behind} {NC : Nat → Prop} {CL CM : Int32 × Int32 × Int32 → Prop} {l : List Nat}
theorem pp_fg {R' : MS → α → MS → Unit → Prop} {B : Option (MS × Int32)} (h : PP R' A (fgU B)) : PP (fun m z w (_ : Int32) => R' m z w ()) A B := by
  intro m z w r e1 e2
  refine h m z w () e1 ?_
  rw [e2]; rfl
theorem pk_fg {Q : MS → Unit → Prop} {B : Option (MS × Int32)} (h : PK (fun w (_ : Int32) => Q w ()) B) : PK Q (fgU B) := by
  intro w r e
  cases B with
  | none => cases e
  | some B =>
    obtain ⟨w', r'⟩ := B
    have e : some (w', ()) = some (w, r) := e
    injection e with e; injection e with e1 e2
    rw [← e1]
    exact h w' r' rfl
theorem fgU_b {o : Option (MS × Int32)} {f : MS → Int32 → Option (MS × Int32)} : fgU (bnd o f) = bnd o (fun u r => fgU (f u r)) := bnd_as2
theorem bdy_r : ∀ (M : Nat) (w : MS) (r r' : Int32), fgU (gg_M_body N S M w r) = fgU (gg_M_body N S M w r')
  | 0, _, _, _ => rfl
  | M + 1, w, r, r' => by
    show fgU (fb_M_body_40 N S (gg_M_body N S M) w r) = fgU (fb_M_body_40 N S (gg_M_body N S M) w r')
    unfold fb_M_body_40
    rw [fgU_b, fgU_b]
    congr 1
    funext u1 r1
    cases z : decide (r1 = 0) with
    | true => rfl
    | false => rfl
theorem set60 (h : RNs w (e2 :: t2)) (hb : b ≤ e2.1.length) : UNQ (cutS b (e2 :: t2)) w (upA w 60 (upd (w.2.2.1 60) (w.1 65).toNatClampNeg (I (b : Nat)))) := by
  have sl : t2.length + 1 ≤ 27 := h.2.1.2
  have s65 : (w.1 65).toNatClampNeg = t2.length := by
    rw [h.1]
    exact tnI (n := t2.length) rfl (by omega)
  rw [s65]
  have n60 : ∀ k, k ≠ 60 → (upA w 60 (upd (w.2.2.1 60) t2.length (I (b : Nat)))).2.2.1 k = w.2.2.1 k := fun k hk => upA_no hk
  have ln : (e2.1.take b).length = b := by rw [List.length_take]; omega
  refine ⟨⟨h.1, h.2.1, ⟨⟨?_, fun k x hx => ?_, ?_, ?_, ?_⟩, ?_⟩, SOK_cut h.2.2.2⟩, rfl, fun _ _ => rfl, fun k hk h6 => n60 k h6, fun a e1 e3 => ⟨a, ⟨e1, Nat.le_refl _, e3⟩, ?_, fun j h1 h2 => absurd h2 (by omega)⟩⟩
  · show (upA w 60 _).2.2.1 60 t2.length = I ((e2.1.take b).length : Nat)
    rw [upA_at, upd_at, ln]
  · have hx : (e2.1.take b)[k]? = some x := hx
    rw [n60 59 (by decide)]
    refine h.2.2.1.1.2.1 k x ?_
    rw [List.getElem?_take] at hx
    split at hx
    · exact hx
    · cases hx
  · rw [n60 63 (by decide)]; exact h.2.2.1.1.2.2.1
  · rw [n60 61 (by decide)]; exact h.2.2.1.1.2.2.2.1
  · rw [n60 64 (by decide)]; exact h.2.2.1.1.2.2.2.2
  · refine RNl_fr h.2.2.2.2 h.2.2.1.2 (fun j hj => ?_) (fun j hj => ?_)
    · rw [n60 63 (by decide), n60 64 (by decide), upA_at, upd_no (by omega)]
      exact ⟨rfl, rfl, rfl⟩
    · rw [n60 59 (by decide), n60 61 (by decide)]
      exact ⟨rfl, rfl⟩
  · exact fun j hj => by rw [n60 23 (by decide), n60 25 (by decide), n60 26 (by decide), n60 27 (by decide)]; exact ⟨rfl, fun _ => ⟨rfl, rfl, rfl⟩⟩
theorem bd_fl (h : FLW w) : PK (fun w2 (_ : Int32) => FLW w2) (gg_M_body N (rc_M_behind N d) M w r) := by
  refine Kf_pk (u0 := w) ?_
  have h : Kfc w w := h
  obtain ⟨hF0, hF1, hF2, hF3, hF4, hF5, hF6, hF7, hF8, hF9, hF10, hF11, hF12, hF13, hF14, hF15, hF16⟩ := yf_rc_M_behind (u0 := w) (N := N) d
  repeat' (first | with_reducible assumption | with_reducible refine Kf_br ?_ ?_ | with_reducible refine Kf_bnd ?_ (fun _ _ _ => ?_) | with_reducible refine Kf_ck ?_ | with_reducible refine Kf_ltm ?_ (fun _ _ => ?_) | with_reducible refine Kf_some ?_ | with_reducible refine Kf_bo (fun _ => ?_) | with_reducible exact yf_fm_M_node (by assumption) | with_reducible exact yf_fm_M_pattern (by assumption) | with_reducible exact yf_fm_M_wrong (by assumption) | with_reducible exact yf_fm_M_rule (by assumption) | with_reducible exact yf_fm_M_isSign (by assumption) | with_reducible exact yf_fm_M_isWord (by assumption) | with_reducible exact yf_fm_M_takeSign (by assumption) | with_reducible exact yf_fm_M_takeWord (by assumption) | with_reducible exact yf_fm_M_needSign (by assumption) | with_reducible exact yf_fm_M_needWord (by assumption) | with_reducible exact yf_fm_M_opens (by assumption) | with_reducible exact yf_fm_M_boundIn (by assumption) | with_reducible exact yf_fr_M_found (by assumption) | with_reducible exact yf_fm_M_bind (by assumption) | with_reducible exact yf_fm_M_isUnderscore (by assumption) | with_reducible exact yf_fm_M_unbind (by assumption) | with_reducible exact yf_fm_M_term (by assumption) | with_reducible exact yf_fm_M_namePattern (by assumption) | with_reducible exact yf_fr_M_patternAt (by assumption) | with_reducible exact yf_fm_M_beginsUnit (by assumption) | with_reducible exact yf_fm_M_save (by assumption) | with_reducible exact yf_fm_M_addRoot (by assumption) | with_reducible exact yf_fm_M_level (by assumption) | with_reducible exact yf_fm_M_reduce (by assumption) | with_reducible exact yf_fm_M_takeBack (by assumption) | with_reducible exact yf_fm_M_forgetSaved (by assumption) | with_reducible exact yf_fr_M_last (by assumption) | with_reducible exact yf_fr_M_clause (by assumption) | with_reducible exact yf_fm_M_predefinedOf (by assumption) | with_reducible exact yf_fm_M_function0 (by assumption) | with_reducible exact yf_fm_M_program (by assumption) | with_reducible exact hF0 _ (by assumption) | with_reducible exact hF1 _ _ (by assumption) | with_reducible exact hF2 _ _ _ (by assumption) | with_reducible exact hF3 _ _ _ (by assumption) | with_reducible exact hF4 _ (by assumption) | with_reducible exact hF5 _ _ (by assumption) | with_reducible exact hF6 _ _ (by assumption) | with_reducible exact hF7 _ _ (by assumption) | with_reducible exact hF8 _ _ (by assumption) | with_reducible exact hF9 _ (by assumption) | with_reducible exact hF10 _ (by assumption) | with_reducible exact hF11 _ (by assumption) | with_reducible exact hF12 _ (by assumption) | with_reducible exact hF13 _ (by assumption) | with_reducible exact hF14 _ (by assumption) | with_reducible exact hF15 _ (by assumption) | with_reducible exact hF16 _ _ (by assumption) | with_reducible exact yf_fb_M_body_40 (by assumption) hF0 hF1 hF2 hF3 hF4 hF5 hF6 hF7 hF8 hF9 hF10 hF11 hF12 hF13 hF14 hF15 hF16 (yf_gg_M_body hF0 hF1 hF2 hF3 hF4 hF5 hF6 hF7 hF8 hF9 hF10 hF11 hF12 hF13 hF14 hF15 hF16 _) | with_reducible exact yf_fb_M_body_31 (by assumption) hF0 hF1 hF2 hF3 hF4 hF5 hF6 hF7 hF8 hF9 hF10 hF11 hF12 hF13 hF14 hF15 hF16 (yf_gg_M_body hF0 hF1 hF2 hF3 hF4 hF5 hF6 hF7 hF8 hF9 hF10 hF11 hF12 hF13 hF14 hF15 hF16 _) | with_reducible exact yf_fb_M_body_0 (by assumption) hF0 hF1 hF2 hF3 hF4 hF5 hF6 hF7 hF8 hF9 hF10 hF11 hF12 hF13 hF14 hF15 hF16 (yf_gg_M_body hF0 hF1 hF2 hF3 hF4 hF5 hF6 hF7 hF8 hF9 hF10 hF11 hF12 hF13 hF14 hF15 hF16 _) | with_reducible exact (yf_gg_M_body hF0 hF1 hF2 hF3 hF4 hF5 hF6 hF7 hF8 hF9 hF10 hF11 hF12 hF13 hF14 hF15 hF16 _) _ _ (by assumption) | with_reducible refine Kf_ltv (fun _ => ?_) | with_reducible refine Kf_I ?_ (by decide) | with_reducible refine Kf_A ?_ | with_reducible refine Kf_J ?_ | with_reducible refine Kf_L ?_)
theorem bd_pp (c : CTZ m0 w0 K T nm Nk) (c45 : ∀ p, p ≤ T → K p ≠ 45) (hE : HE N m0 w0 K T nm Nk d) (h : RLP m0 w0 T p m w) (hn : m.1 306 = I (n : Nat)) (hn2 : n ≤ 2 * p) (hR : RNs w sc) (nd : ND w) (h70 : w.1 70 = I (o : Nat)) (ho : o < 25) (hg : w.1 73 = 0) : PP (fun m2 z w2 (_ : Int32) => BDZ N m0 w0 K T nm Nk p n sc m w m2 z w2) (bTm ((hrc_Pa_matched N D).2.2.2.2.2.2.2.2.2.2.2.2.2.2.2.2.2.2.1 (upI m 666 (m.1 666 + 1)) 0 4000) (fun u2 r2 => lt (upI u2 666 (u2.1 666 - 1)) (fun w4 => some (w4, .inl r2)))) (bnd ((rc_M_behind N d).2.2.2.2.2.2.2.2.2.2.2.2.2.1 (upI w 70 (w.1 70 + 1))) (fun u6 r6 => gg_M_body N (rc_M_behind N d) N u6 r6)) := by
  cases D with
  | zero => exact pp_nl
  | succ D =>
    refine pp_fg (R' := fun m2 z w2 _ => BDZ N m0 w0 K T nm Nk p n sc m w m2 z w2) ?_
    rw [fgU_b]
    have e1 : (fun u r => fgU (gg_M_body N (rc_M_behind N d) N u r)) = (fun u (_ : Int32) => fgU (gg_M_body N (rc_M_behind N d) N u 0)) := by
      funext u r
      exact bdy_r N u r 0
    rw [e1]
    obtain ⟨av, hav, hav2⟩ := nd
    have rl := RLP_70 h
    refine erow_st (SC := hrc_Pa_matched N D) (RA := fun M _ w => fgU (gg_M_body N (rc_M_behind N d) M w 0)) (mx := 4000) (gd := false) (o := o + 1) (sc := sc) (p0 := p) (n0 := n) (by decide) (by decide) c c45 hn2 rl (by rw [upI_ne (by decide)]; exact hn) (RNs_e hR (upI_ne (by decide)) (fun _ _ _ => rfl)) ⟨av, by rw [upI_ne (by decide)]; exact hav, hav2⟩ (by rw [upI_at, h70]; exact i_suc) (by omega) (by rw [upI_ne (by decide), hg]; rfl) (hE D) ?_ ?_ ?_ ?_ ?_ ?_ (Or.inr rfl)
    · intro M m2 w2 q k l hI k26 hlk hk6
      obtain ⟨n2, sc2, X, W, Rf, Zf, CL, b0, b1, b2, b3, b4, b5⟩ := hI
      have hw2 := RLP_w c b1.1
      have h2 := b1.1.2.2.2.2.2.2
      cases M with
      | zero => exact pp_nr
      | succ M =>
        show PP _ _ (fgU (fb_M_body_40 N (rc_M_behind N d) (gg_M_body N (rc_M_behind N d) M) w2 0))
        unfold fb_M_body_40
        rw [tkS_e (k := 26) (s := 6) hw2 h2 (by decide) rfl, if_neg k26, bnd_s, show decide ((0 : Int32) = 0) = true from rfl, br_tq]
        refine l_lt (pp_end ?_)
        exact ⟨l, q, n2, sc2, X, W, Rf, Zf, CL, rfl, b0.1, b0.2.1, STQ_70 b1 h.2.2.2.2.2.1, ERW_k (Nat.le_refl _) kc_666 (fun j _ => ⟨rfl, rfl⟩) b2, b4⟩
    · intro M k q w2 a hw2 h2 k26 hk1 hk6 ha
      cases M with
      | zero => exact pp_nr
      | succ M =>
        show PP _ _ (fgU (fb_M_body_40 N (rc_M_behind N d) (gg_M_body N (rc_M_behind N d) M) w2 0))
        unfold fb_M_body_40
        rw [tkS_e (k := 26) (s := 6) hw2 h2 (by decide) rfl, if_pos k26, bnd_s, show decide ((1 : Int32) = 0) = false from rfl, br_fq, fgU_b]
        refine r_bnd (pk_mo (node_s (kd := 17) (N := N) (by decide)) (fun u3 r3 h3 => ?_))
        rw [fgU_b]
        have e2 : (fun u r => fgU (gg_M_body N (rc_M_behind N d) M u r)) = (fun u (_ : Int32) => fgU (gg_M_body N (rc_M_behind N d) M u 0)) := by
          funext u r
          exact bdy_r M u r 0
        rw [e2]
        exact ha u3 M h3.1 h3.2.1
    · intro M k q w2 h8; exact absurd h8 (by decide)
    · intro M k w2 hf
      exact pk_fg (bd_fl hf)
    · intro m2 q φ h8; exact absurd h8 (by decide)
    · intro m2 k w2 r hf; exact hf
theorem HBo_s (c : CTZ m0 w0 K T nm Nk) (c45 : ∀ p, p ≤ T → K p ≠ 45) (hE : HE N m0 w0 K T nm Nk d) : HBo N m0 w0 K T nm Nk (d + 1) := by
  intro D m w p n sc o h hn hn2 hR nd h70 ho hg
  cases D with
  | zero => exact pp_nl
  | succ D =>
    show PP _ (hb_Pa_body_0 N (hrc_Pa_matched N D) () m) (fb_M_body_0 N (rc_M_behind N d) (gg_M_body N (rc_M_behind N d) N) w)
    have hc := RLP_c c h
    have hwp := RLP_w c h
    have h0 := h.2.2.2.2.2.2
    have k46 := hc.1.1.k46 hc.2.2
    unfold hb_Pa_body_0 fb_M_body_0 hb_Pa_body_20 hb_Pa_body_25
    rw [look_e hc (c45 _ h.2.2.2.2.1), bTm_l, bU_e k46, bnd_s, decide_eq_true h0, br_tq, bU_m hwp, bnd_s, look_e hc (c45 _ h.2.2.2.2.1), bTm_l, I_dn (a := K p) (b := 9) (s := 9) (by omega) (by decide) rfl]
    have go : PP (fun m2 z w2 (_ : Int32) => BDZ N m0 w0 K T nm Nk p n sc m w m2 z w2) (bTm (hm_Pa_opens N m 1) (fun u1 r1 => bTm ((hrc_Pa_matched N D).2.2.2.2.2.2.2.2.2.2.2.2.2.2.2.2.2.2.1 u1 0 4000) (fun u2 r2 => lt (upI u2 666 (u2.1 666 - 1)) (fun w4 => some (w4, .inl r2))))) (fb_M_body_31 N (rc_M_behind N d) (gg_M_body N (rc_M_behind N d) N) w) := by
      unfold fb_M_body_31
      by_cases z : o < 25
      · have zz := (lt25 h70 (by omega)).mpr z
        rw [opens_e (by rw [h.2.2.2.2.2.1]; exact zz), bTm_l, opn_e zz, bnd_s]
        exact bd_pp c c45 hE h hn hn2 hR nd h70 z hg
      · have zz : ¬ w.1 70 < 25 := fun y => z ((lt25 h70 (by omega)).mp y)
        refine pp_rf (RFS_T (opens_x hc (by rw [h.2.2.2.2.2.1]; exact zz))) (fun m' => ?_)
        refine pk_bnd (pk_mo (opn_x zz) (fun v r y => ?_))
        refine Kf_pk (u0 := v) ?_
        have y2 : Kfc v v := y
        obtain ⟨hF0, hF1, hF2, hF3, hF4, hF5, hF6, hF7, hF8, hF9, hF10, hF11, hF12, hF13, hF14, hF15, hF16⟩ := yf_rc_M_behind (u0 := v) (N := N) d
        repeat' (first | with_reducible assumption | with_reducible refine Kf_br ?_ ?_ | with_reducible refine Kf_bnd ?_ (fun _ _ _ => ?_) | with_reducible refine Kf_ck ?_ | with_reducible refine Kf_ltm ?_ (fun _ _ => ?_) | with_reducible refine Kf_some ?_ | with_reducible refine Kf_bo (fun _ => ?_) | with_reducible exact yf_fm_M_node (by assumption) | with_reducible exact yf_fm_M_pattern (by assumption) | with_reducible exact yf_fm_M_wrong (by assumption) | with_reducible exact yf_fm_M_rule (by assumption) | with_reducible exact yf_fm_M_isSign (by assumption) | with_reducible exact yf_fm_M_isWord (by assumption) | with_reducible exact yf_fm_M_takeSign (by assumption) | with_reducible exact yf_fm_M_takeWord (by assumption) | with_reducible exact yf_fm_M_needSign (by assumption) | with_reducible exact yf_fm_M_needWord (by assumption) | with_reducible exact yf_fm_M_opens (by assumption) | with_reducible exact yf_fm_M_boundIn (by assumption) | with_reducible exact yf_fr_M_found (by assumption) | with_reducible exact yf_fm_M_bind (by assumption) | with_reducible exact yf_fm_M_isUnderscore (by assumption) | with_reducible exact yf_fm_M_unbind (by assumption) | with_reducible exact yf_fm_M_term (by assumption) | with_reducible exact yf_fm_M_namePattern (by assumption) | with_reducible exact yf_fr_M_patternAt (by assumption) | with_reducible exact yf_fm_M_beginsUnit (by assumption) | with_reducible exact yf_fm_M_save (by assumption) | with_reducible exact yf_fm_M_addRoot (by assumption) | with_reducible exact yf_fm_M_level (by assumption) | with_reducible exact yf_fm_M_reduce (by assumption) | with_reducible exact yf_fm_M_takeBack (by assumption) | with_reducible exact yf_fm_M_forgetSaved (by assumption) | with_reducible exact yf_fr_M_last (by assumption) | with_reducible exact yf_fr_M_clause (by assumption) | with_reducible exact yf_fm_M_predefinedOf (by assumption) | with_reducible exact yf_fm_M_function0 (by assumption) | with_reducible exact yf_fm_M_program (by assumption) | with_reducible exact hF0 _ (by assumption) | with_reducible exact hF1 _ _ (by assumption) | with_reducible exact hF2 _ _ _ (by assumption) | with_reducible exact hF3 _ _ _ (by assumption) | with_reducible exact hF4 _ (by assumption) | with_reducible exact hF5 _ _ (by assumption) | with_reducible exact hF6 _ _ (by assumption) | with_reducible exact hF7 _ _ (by assumption) | with_reducible exact hF8 _ _ (by assumption) | with_reducible exact hF9 _ (by assumption) | with_reducible exact hF10 _ (by assumption) | with_reducible exact hF11 _ (by assumption) | with_reducible exact hF12 _ (by assumption) | with_reducible exact hF13 _ (by assumption) | with_reducible exact hF14 _ (by assumption) | with_reducible exact hF15 _ (by assumption) | with_reducible exact hF16 _ _ (by assumption) | with_reducible exact yf_fb_M_body_40 (by assumption) hF0 hF1 hF2 hF3 hF4 hF5 hF6 hF7 hF8 hF9 hF10 hF11 hF12 hF13 hF14 hF15 hF16 (yf_gg_M_body hF0 hF1 hF2 hF3 hF4 hF5 hF6 hF7 hF8 hF9 hF10 hF11 hF12 hF13 hF14 hF15 hF16 _) | with_reducible exact yf_fb_M_body_31 (by assumption) hF0 hF1 hF2 hF3 hF4 hF5 hF6 hF7 hF8 hF9 hF10 hF11 hF12 hF13 hF14 hF15 hF16 (yf_gg_M_body hF0 hF1 hF2 hF3 hF4 hF5 hF6 hF7 hF8 hF9 hF10 hF11 hF12 hF13 hF14 hF15 hF16 _) | with_reducible exact yf_fb_M_body_0 (by assumption) hF0 hF1 hF2 hF3 hF4 hF5 hF6 hF7 hF8 hF9 hF10 hF11 hF12 hF13 hF14 hF15 hF16 (yf_gg_M_body hF0 hF1 hF2 hF3 hF4 hF5 hF6 hF7 hF8 hF9 hF10 hF11 hF12 hF13 hF14 hF15 hF16 _) | with_reducible exact (yf_gg_M_body hF0 hF1 hF2 hF3 hF4 hF5 hF6 hF7 hF8 hF9 hF10 hF11 hF12 hF13 hF14 hF15 hF16 _) _ _ (by assumption) | with_reducible refine Kf_ltv (fun _ => ?_) | with_reducible refine Kf_I ?_ (by decide) | with_reducible refine Kf_A ?_ | with_reducible refine Kf_J ?_ | with_reducible refine Kf_L ?_)
    cases hb : bUK (K p) with
    | false =>
      rw [show decide (b2c false = 0) = true from rfl, br_tq, br_tq]
      by_cases z9 : K p = 9
      · rw [decide_eq_true z9, br_tq, isV_e (k := 9) (s := 4) hwp (by decide) rfl, bnd_s, if_pos z9, show decide ((1 : Int32) = 0) = false from rfl, br_fq]
        exact go
      · rw [decide_eq_false z9, br_fq, isV_e (k := 9) (s := 4) hwp (by decide) rfl, bnd_s, if_neg z9, show decide ((0 : Int32) = 0) = true from rfl, br_tq]
        refine pp_rf (RFS_T (opens_0 hc)) (fun m' => ?_)
        exact pk_bnd (fun v r z => pk_some (wrong_s (u0 := w) (by decide) v r z))
    | true =>
      rw [show decide (b2c true = 0) = false from rfl, br_fq, br_fq]
      exact go
theorem gc_fl (h : FLW w) : PK (fun w2 (_ : Int32) => FLW w2) (gcR N (rc_M_behind N d) v1 v2 v3 M w) := by
  unfold gcR
  refine Kf_pk (u0 := w) ?_
  have h : Kfc w w := h
  obtain ⟨hF0, hF1, hF2, hF3, hF4, hF5, hF6, hF7, hF8, hF9, hF10, hF11, hF12, hF13, hF14, hF15, hF16⟩ := yf_rc_M_behind (u0 := w) (N := N) d
  repeat' (first | with_reducible assumption | with_reducible refine Kf_br ?_ ?_ | with_reducible refine Kf_bnd ?_ (fun _ _ _ => ?_) | with_reducible refine Kf_ck ?_ | with_reducible refine Kf_ltm ?_ (fun _ _ => ?_) | with_reducible refine Kf_some ?_ | with_reducible refine Kf_bo (fun _ => ?_) | with_reducible exact yf_fm_M_node (by assumption) | with_reducible exact yf_fm_M_pattern (by assumption) | with_reducible exact yf_fm_M_wrong (by assumption) | with_reducible exact yf_fm_M_rule (by assumption) | with_reducible exact yf_fm_M_isSign (by assumption) | with_reducible exact yf_fm_M_isWord (by assumption) | with_reducible exact yf_fm_M_takeSign (by assumption) | with_reducible exact yf_fm_M_takeWord (by assumption) | with_reducible exact yf_fm_M_needSign (by assumption) | with_reducible exact yf_fm_M_needWord (by assumption) | with_reducible exact yf_fm_M_opens (by assumption) | with_reducible exact yf_fm_M_boundIn (by assumption) | with_reducible exact yf_fr_M_found (by assumption) | with_reducible exact yf_fm_M_bind (by assumption) | with_reducible exact yf_fm_M_isUnderscore (by assumption) | with_reducible exact yf_fm_M_unbind (by assumption) | with_reducible exact yf_fm_M_term (by assumption) | with_reducible exact yf_fm_M_namePattern (by assumption) | with_reducible exact yf_fr_M_patternAt (by assumption) | with_reducible exact yf_fm_M_beginsUnit (by assumption) | with_reducible exact yf_fm_M_save (by assumption) | with_reducible exact yf_fm_M_addRoot (by assumption) | with_reducible exact yf_fm_M_level (by assumption) | with_reducible exact yf_fm_M_reduce (by assumption) | with_reducible exact yf_fm_M_takeBack (by assumption) | with_reducible exact yf_fm_M_forgetSaved (by assumption) | with_reducible exact yf_fr_M_last (by assumption) | with_reducible exact yf_fr_M_clause (by assumption) | with_reducible exact yf_fm_M_predefinedOf (by assumption) | with_reducible exact yf_fm_M_function0 (by assumption) | with_reducible exact yf_fm_M_program (by assumption) | with_reducible exact hF0 _ (by assumption) | with_reducible exact hF1 _ _ (by assumption) | with_reducible exact hF2 _ _ _ (by assumption) | with_reducible exact hF3 _ _ _ (by assumption) | with_reducible exact hF4 _ (by assumption) | with_reducible exact hF5 _ _ (by assumption) | with_reducible exact hF6 _ _ (by assumption) | with_reducible exact hF7 _ _ (by assumption) | with_reducible exact hF8 _ _ (by assumption) | with_reducible exact hF9 _ (by assumption) | with_reducible exact hF10 _ (by assumption) | with_reducible exact hF11 _ (by assumption) | with_reducible exact hF12 _ (by assumption) | with_reducible exact hF13 _ (by assumption) | with_reducible exact hF14 _ (by assumption) | with_reducible exact hF15 _ (by assumption) | with_reducible exact hF16 _ _ (by assumption) | with_reducible exact yf_fb_M_guardCode_39 (by assumption) hF0 hF1 hF2 hF3 hF4 hF5 hF6 hF7 hF8 hF9 hF10 hF11 hF12 hF13 hF14 hF15 hF16 (yf_gg_M_guardCode hF0 hF1 hF2 hF3 hF4 hF5 hF6 hF7 hF8 hF9 hF10 hF11 hF12 hF13 hF14 hF15 hF16 _) | with_reducible exact yf_fb_M_guardCode_37 (by assumption) hF0 hF1 hF2 hF3 hF4 hF5 hF6 hF7 hF8 hF9 hF10 hF11 hF12 hF13 hF14 hF15 hF16 (yf_gg_M_guardCode hF0 hF1 hF2 hF3 hF4 hF5 hF6 hF7 hF8 hF9 hF10 hF11 hF12 hF13 hF14 hF15 hF16 _) | with_reducible exact yf_fb_M_guardCode_0 (by assumption) hF0 hF1 hF2 hF3 hF4 hF5 hF6 hF7 hF8 hF9 hF10 hF11 hF12 hF13 hF14 hF15 hF16 (yf_gg_M_guardCode hF0 hF1 hF2 hF3 hF4 hF5 hF6 hF7 hF8 hF9 hF10 hF11 hF12 hF13 hF14 hF15 hF16 _) | with_reducible exact (yf_gg_M_guardCode hF0 hF1 hF2 hF3 hF4 hF5 hF6 hF7 hF8 hF9 hF10 hF11 hF12 hF13 hF14 hF15 hF16 _) _ _ _ _ _ (by assumption) | with_reducible refine Kf_ltv (fun _ => ?_) | with_reducible refine Kf_I ?_ (by decide) | with_reducible refine Kf_A ?_ | with_reducible refine Kf_J ?_ | with_reducible refine Kf_L ?_)
theorem HGc_s (c : CTZ m0 w0 K T nm Nk) (c45 : ∀ p, p ≤ T → K p ≠ 45) (hE : HE N m0 w0 K T nm Nk d) : HGc N m0 w0 K T nm Nk (d + 1) := by
  intro D m w p n sc o h hn hn2 hR nd h70 ho hg
  cases D with
  | zero => exact pp_nl
  | succ D =>
    show PP _ (hm_Pa_row N (hrc_Pa_matched N D) m 0 4000) (fb_M_guardCode_0 N (rc_M_behind N d) (gg_M_guardCode N (rc_M_behind N d) N) w)
    have h0 := h.2.2.2.2.2.2
    have hl : 1 ≤ sc.length ∧ sc.length ≤ 27 := hR.2.1
    cases sc with
    | nil => exact absurd hl.1 (by decide)
    | cons e t =>
    unfold fb_M_guardCode_0 fb_M_guardCode_37
    have e60 : w.2.2.1 60 (w.1 65).toNatClampNeg = I (e.1.length : Nat) := by
      have s65 : (w.1 65).toNatClampNeg = t.length := by
        rw [hR.1]
        exact tnI (n := t.length) rfl (by have : t.length + 1 ≤ 27 := hl.2; omega)
      rw [s65]; exact hR.2.2.1.1.1
    rw [e60]
    have i73 : ∀ k, k ≠ 73 → (upI w 73 1).1 k = w.1 k := fun k hk => upI_ne hk
    refine r_ck (fun _ => r_lt (r_lt ?_))
    rw [i73 67 (by decide), decide_eq_true h0, br_tq]
    have go : ∀ M, PP (fun m2 z w2 (_ : Int32) => GDZ N m0 w0 K T nm Nk p n (e :: t) m w m2 z w2) (bTm (hm_Pa_row N (hrc_Pa_matched N D) m 0 (I ((4000 : Nat) : Int))) (fun u r => some (u, .inl r))) (gg_M_guardCode N (rc_M_behind N d) M (upI w 73 1) (w.1 32) (w.1 73) (I (e.1.length : Nat)) 1) := fun M => by
      cases M with
      | zero => exact pp_nr
      | succ M =>
        show PP _ _ (fb_M_guardCode_39 N (rc_M_behind N d) (gg_M_guardCode N (rc_M_behind N d) M) (upI w 73 1) (w.1 32) (w.1 73) (I (e.1.length : Nat)) 1)
        unfold fb_M_guardCode_39
        rw [show decide ((1 : Int32) = 0) = false from rfl, br_fq]
        obtain ⟨av, hav, hav2⟩ := nd
        have rl : RLP m0 w0 T p m (upI w 73 1) := ⟨h.1, Kt_I h.2.1 (by decide), h.2.2.1, by rw [i73 69 (by decide)]; exact h.2.2.2.1, h.2.2.2.2.1, by rw [i73 70 (by decide)]; exact h.2.2.2.2.2.1, by rw [i73 67 (by decide)]; exact h0⟩
        refine erow_st (SC := hrc_Pa_matched N D) (fC := fun u r => some (u, .inl r)) (RA := fun M _ w' => gcR N (rc_M_behind N d) (w.1 32) (w.1 73) (I (e.1.length : Nat)) M w') (M := M) (mx := 4000) (gd := true) (o := o) (sc := e :: t) (p0 := p) (n0 := n) (by decide) (by decide) c c45 hn2 rl hn (RNs_e hR (i73 65 (by decide)) (fun _ _ _ => rfl)) ⟨av, by rw [i73 32 (by decide)]; exact hav, hav2⟩ (by rw [i73 70 (by decide)]; exact h70) ho (by rw [upI_at]; rfl) (hE D) ?_ ?_ ?_ ?_ ?_ ?_ (Or.inr rfl)
        · intro M m2 w2 q k l hI k26 hlk hk6
          obtain ⟨n2, sc2, X, W, Rf, Zf, CL, b0, b1, b2, b3, b4, b5⟩ := hI
          show PP _ _ (gcR N (rc_M_behind N d) (w.1 32) (w.1 73) (I (e.1.length : Nat)) M w2)
          unfold gcR
          refine r_bnd (pk_mo (node_s (kd := 22) (N := N) (by decide)) (fun u5 r5 h5 => ?_))
          have s1 := STQ_s b1 h5.1 h5.2.1
          have hw2 := RLP_w c s1.1
          have h2 := s1.1.2.2.2.2.2.2
          rw [tkS_e (k := 26) (s := 6) hw2 h2 (by decide) rfl, if_neg k26, bnd_s]
          cases M with
          | zero => exact pp_nr
          | succ M =>
            show PP _ _ (fb_M_guardCode_39 N (rc_M_behind N d) (gg_M_guardCode N (rc_M_behind N d) M) u5 (w.1 32) (w.1 73) (I (e.1.length : Nat)) 0)
            unfold fb_M_guardCode_39
            rw [show decide ((0 : Int32) = 0) = true from rfl, br_tq]
            refine r_bnd (pk_mo (node_s (kd := 23) (N := N) (by decide)) (fun u6 r6 h6 => r_ck (fun _ => r_lt (r_ck (fun _ => r_lt (pp_end ?_))))))
            have s2 := STQ_s s1 h6.1 h6.2.1
            cases sc2 with
            | nil => exact s2.2.2.2.2.1.2.1.elim
            | cons e2 t2 =>
            obtain ⟨c1, c2, c3, c4, c5, c6, c7⟩ := s2
            have s3 := STW_k (k := 73) (Or.inr rfl) c5 (y := w.1 73) rfl
            have le : e.1.length ≤ e2.1.length := s3.2.1.1.length_le
            have un := set60 (b := e.1.length) s3.1 le
            have s4 := STW_cut s3 (Nat.le_refl _) un
            have i6 : ∀ k, k ≠ 73 → (upI u6 73 (w.1 73)).1 k = u6.1 k := fun k hk => upI_ne hk
            have r1 : RLP m0 w0 T q m2 (upI u6 73 (w.1 73)) := ⟨c1.1, Kt_I c1.2.1 (by decide), c1.2.2.1, by rw [i6 69 (by decide)]; exact c1.2.2.2.1, c1.2.2.2.2.1, by rw [i6 70 (by decide)]; exact c1.2.2.2.2.2.1, by rw [i6 67 (by decide)]; exact c1.2.2.2.2.2.2⟩
            have bl := (BDs_len s3.2.1.2.2).2
            refine ⟨l, q, n2, e2 :: t2, cutS e.1.length (e2 :: t2), X, W, Rf, Zf, CL, rfl, b0.1, b0.2.1, ⟨RLP_u r1 un, c2, c3, c4, s4, fun z => Bool.noConfusion z, SNW_cut c7⟩, b2, fun z => ?_, cut_nm s3.2.1, b4⟩
            refine cut_all ?_
            have := c6 rfl z
            have : tot t2 + e2.1.length = tot t + e.1.length := this
            omega
        · intro M k q w2 a hw2 h2 k26 hk1 hk6 ha
          show PP _ _ (gcR N (rc_M_behind N d) (w.1 32) (w.1 73) (I (e.1.length : Nat)) M w2)
          unfold gcR
          refine r_bnd (pk_mo (node_s (kd := 22) (N := N) (by decide)) (fun u5 r5 h5 => ?_))
          have hw5 : WP u5 K T q := ⟨⟨hw2.1.1, fun j hj => by rw [h5.1.2.1 6 (by unfold SMX; omega)]; exact hw2.1.2.1 j hj, fun j hj => by rw [h5.1.2.1 7 (by unfold SMX; omega)]; exact hw2.1.2.2 j hj⟩, by rw [h5.2.1]; exact hw2.2.1, hw2.2.2⟩
          have h52 : u5.1 67 = 0 := by rw [h5.1.1 67 (by decide)]; exact h2
          rw [tkS_e (k := 26) (s := 6) hw5 h52 (by decide) rfl, if_pos k26, bnd_s]
          cases M with
          | zero => exact pp_nr
          | succ M =>
            show PP _ _ (fb_M_guardCode_39 N (rc_M_behind N d) (gg_M_guardCode N (rc_M_behind N d) M) (adv u5 q) (w.1 32) (w.1 73) (I (e.1.length : Nat)) 1)
            unfold fb_M_guardCode_39
            rw [show decide ((1 : Int32) = 0) = false from rfl, br_fq]
            refine ha (adv u5 q) M ?_ ?_
            · obtain ⟨y1, y2, y3⟩ := h5.1
              refine ⟨fun j hj => ?_, y2, fun a e1 e2 => ?_⟩
              · have : j ≠ 69 := by rintro rfl; revert hj; decide
                unfold adv
                rw [upI_ne this, upI_ne this]; exact y1 j hj
              · unfold adv at e1
                rw [upI_ne (by decide)] at e1
                obtain ⟨b, b1, b2, b3⟩ := y3 a e1 e2
                exact ⟨b, ⟨by unfold adv; rw [upI_ne (by decide)]; exact b1.1, b1.2⟩, b2, b3⟩
            · unfold adv; rw [upI_at, upI_at]
        · intro M k q w2 h8; exact absurd h8 (by decide)
        · intro M k w2 hf
          exact gc_fl hf
        · intro m2 q φ h8; exact absurd h8 (by decide)
        · intro m2 k w2 r hf; exact hf
    have e9 : ∀ o : Option (MS × (Int32 ⊕ Nat)), bTm o (fun u r => some (u, .inl r)) = o := fun o => by
      cases o with
      | none => rfl
      | some o =>
        obtain ⟨u, z⟩ := o
        cases z <;> rfl
    have := go N
    rw [e9] at this
    exact this
end
end
section
set_option maxRecDepth 100000
def PAR (N : Nat) (m0 w0 : MS) (K : Nat → Nat) (T : Nat) (nm Nk : Nat → Nat) (p n : Nat) (e : List Nat × List Nat × Nat) (t : SCT) (m w m2 : MS) (ρ : Int32) (w2 : MS) : Prop := ∃ (π p2 n2 q1 : Nat) (sc1 : SCT) (e3 : List Nat × List Nat × Nat) (t3 : SCT) (X1 X2 : Nat) (W : Nat → Nat) (R1 R2 Z1 Z2 : Bool) (CL1 CL2 : Int32 × Int32 × Int32 → Prop), ρ = I (π : Nat) ∧ (n < π ∧ π ≤ n2) ∧ (p ≤ q1 ∧ q1 < p2) ∧ STQ m0 w0 K T Nk false m w p n (e :: t) 1 m2 w2 p2 n2 (cutS e.1.length (e3 :: t3)) (max X1 X2) W (R1 || R2) (Z1 || Z2) (fun x => CL1 x ∨ CL2 x) ∧ TRB N K nm false m2 n n2 π p q1 (e :: t) sc1 X1 W R1 Z1 (BCo N CL1) ∧ BDB N K nm m2 n n2 π q1 p2 sc1 (e3 :: t3) X2 W R2 Z2 (BCo N CL2) ∧ m2.2.2.1 21 π = 0 ∧ ((tot sc1 ≤ tot (e :: t) + (q1 - p) ∧ sc1.length = (e :: t).length ∧ X1 ≤ 1400) ∧ tot (e3 :: t3) ≤ tot sc1 + (p2 - q1) ∧ (e3 :: t3).length = sc1.length ∧ X2 ≤ 1400) ∧ (e.1.length ≤ e3.1.length ∧ tot t3 + e.1.length = tot (e :: t)) ∧ nms (cutS e.1.length (e3 :: t3)) = nms (e :: t)
section
variable {α : Type} {R : MS → Int32 ⊕ Nat → MS → Int32 → Prop} {A : Option (MS × α)} {m0 w0 m w v u m2 m3 w2 x y z mF mB wB mp mg : MS} {K nm Nk W W1 W2 WA WB : Nat → Nat} {T p n N q q1 X Y X1 X2 XA n1 n2 n3 lo l1 l2 np ng p2 p4 ν μ π a b L L' k d o M D s : Nat} {sc sc1 sc2 sc3 sc4 sc5 t t2 t3 t4 t5 : SCT} {e e2 e3 e4 e5 : List Nat × List Nat × Nat} {gd Rf Rg Zf R1 Z1 own : Bool} {BC : MS → Prop} {v1 v2 v3 v4 v6 r ξ : Int32} {S : SG_M_behind} {NC : Nat → Prop} {CL CM CL1 : Int32 × Int32 × Int32 → Prop} {l lp lg : List Nat}
theorem TRB_w (h : ∀ j, p ≤ j → j < p2 → W2 j = W j) (q : TRB N K nm own m2 lo n2 π p p2 sc sc2 X W Rf Zf BC) : TRB N K nm own m2 lo n2 π p p2 sc sc2 X W2 Rf Zf BC := fun d m3 cm what a b c => by
  have := q d m3 cm what a b c
  unfold CPO at this ⊢
  rw [wup_w h]
  exact this
theorem BDB_w (h : ∀ j, p ≤ j → j < p2 → W2 j = W j) (q : BDB N K nm m2 lo n2 π p p2 sc sc2 X W Rf Zf BC) : BDB N K nm m2 lo n2 π p p2 sc sc2 X W2 Rf Zf BC := fun d m3 cm last a b => by
  have := q d m3 cm last a b
  unfold CPO at this ⊢
  rw [wup_w h]
  exact this
theorem TRB_any (q : TRB N K nm own m2 lo n2 π p p2 sc sc2 X W true Zf BC) : TRB N K nm own m2 lo n2 π p p2 sc sc3 X W true Zf BC := fun d m3 cm what a b c => pk_mo (q d m3 cm what a b c) (fun v _ h => by
  rcases h with h | h
  · exact Or.inl h
  · exact Bool.noConfusion h.1.1)
theorem ERW_g (hp : p ≤ q) (g : ∀ j, p ≤ j → j < q → K j ≠ 3) : ∀ {l : List Nat}, l ≠ [] → ERW N K nm gd m2 lo n2 W l q p2 sc sc2 X Rf Zf BC → ERW N K nm gd m2 lo n2 W l p p2 sc sc2 X Rf Zf BC
  | [], h, _ => absurd rfl h
  | ν :: l, _, ⟨q', q2, sc1, X1, X2, R1, R2, Z1, Z2, B1, B2, h1, g1, h2⟩ => ⟨q', q2, sc1, X1, X2, R1, R2, Z1, Z2, B1, B2, ⟨by omega, h1.2⟩, fun j j1 j2 => by
      by_cases z : j < q
      · exact g j j1 z
      · exact g1 j (by omega) j2, h2⟩
theorem STQ_pat {ε : Int32} (h : PAZ N m0 w0 K T nm Nk p n false sc m w m2 (.inl ε) w2 r) (k : Kjc w w2) (nd : ND w) : ∃ (p2 n2 ν : Nat) (sc2 : SCT) (X : Nat) (W : Nat → Nat), ε = I (ν : Nat) ∧ (n < ν ∧ ν ≤ n2) ∧ p < p2 ∧ STQ m0 w0 K T Nk false m w p n sc 1 m2 w2 p2 n2 sc2 X W false false (fun _ => False) ∧ m2.2.2.1 21 ν = 0 ∧ PTN N K nm m2 n n2 ν false p p2 sc sc2 X W := by
  obtain ⟨p2, n2, ν, sc2, X, W, a1, a2, a3, a4, a5, a6, a7, a8, a9, a10, a11, a12, a13, a14⟩ := h
  obtain ⟨av, hav, hav2⟩ := nd
  refine ⟨p2, n2, ν, sc2, X, W, a1, a2, a4.1, ⟨a3, ⟨by omega, a4.2.1, by omega, by omega⟩, a5, PCF_G a7, ⟨a8, a9.1, a10, a11, by rw [a12]; exact Iff.rfl, ?_, ⟨fun j hj => a13.1 j (by simp only [List.mem_cons, List.not_mem_nil, or_false] at hj ⊢; omega), fun j hj => k.2 j (by omega), fun j _ => by rw [k.2 74 (by omega)], fun j _ => by rw [k.2 76 (by omega)], fun i h1 h2 j _ => by rw [k.2 i (by omega)]⟩, av, av, ⟨hav, by rw [k.1 32 (by decide)]; exact hav, Nat.le_refl _, hav2⟩, fun x => ⟨fun ⟨j, h1, _⟩ => absurd h1 (by omega), False.elim⟩, fun j _ => ?_⟩, fun z => Bool.noConfusion z, a9.2 rfl⟩, a6, a14⟩
  · rw [a13.1 72 (by decide)]
    exact ⟨fun z => ⟨z, rfl⟩, fun z => z.1⟩
  · rw [k.2 23 (by omega), k.2 25 (by omega), k.2 26 (by omega), k.2 27 (by omega)]
    exact ⟨rfl, fun _ => ⟨rfl, rfl, rfl⟩⟩
theorem ar_s {x y : Int32} : PK (fun v (_ : Unit) => SMS w v ∧ v.1 69 = w.1 69) (fm_M_addRoot N w x y) := yl_fm_M_addRoot (u0 := w) Kl_rf
theorem part_tl {F : MS → Int32 → Option (MS × (Int32 ⊕ Nat))} (c : CTZ m0 w0 K T nm Nk) (hB : HBo N m0 w0 K T nm Nk d) (hW : ∀ m k w r, FLW w → R m (.inr k) w r)
    (st : STQ m0 w0 K T Nk false m w p n (e :: t) s m2 w2 q1 n1 sc3 (max X1 X2) W R1 Z1 CL1) (hn0 : n ≤ 2 * p) (hq : p ≤ q ∧ q ≤ q1) (h70 : w2.1 70 = I (o : Nat)) (ho : o ≤ 25) (h73 : w2.1 73 = 0) (e1400 : e.1.length ≤ 1400)
    (hp : PRW N K nm mp l1 np false W lp p q (e :: t) sc1 X1) (kp : (∀ j, l1 < j → j ≤ np → nod m2 j = nod mp j ∧ m2.2.2.1 21 j = mp.2.2.1 21 j) ∧ Kcc mp m2) (hl1 : n ≤ l1) (hnp : np ≤ n1) (hX1 : X1 ≤ 1400)
    (hg : ERW N K nm true mg l2 ng W lg q q1 sc1 sc2 X2 R1 Z1 (BCo N CL1)) (kg : (∀ j, l2 < j → j ≤ ng → nod m2 j = nod mg j ∧ m2.2.2.1 21 j = mg.2.2.1 21 j) ∧ Kcc mg m2) (hl2 : n ≤ l2) (hng : ng ≤ n1) (hR1 : R1 = false → sc3 = sc2)
    (hv6 : v6 ≠ -1) (h34 : v4 = -1 ∨ v3 ≠ -1)
    (hC : ∀ m3 ρ w3 a b, a ≠ -1 → PAR N m0 w0 K T nm Nk p n e t m w m3 ρ w3 → PP R (F m3 ρ) (fb_M_parts0_214 N (rc_M_behind N d) (gg_M_parts0 N (rc_M_behind N d) M) w3 v1 v2 a b)) :
    PP R (bTm (hb_Pa_part_30 N (hrc_Pa_matched N D) () m2 (I (p : Nat)) (I ((lp.headD 0 : Nat) : Int)) (I ((lg.headD 0 : Nat) : Int))) F) (fb_M_parts0_127 N (rc_M_behind N d) (gg_M_parts0 N (rc_M_behind N d) M) w2 v1 v2 v3 v4 v6 (I (e.1.length : Nat)) 42 v6 r) := by
  have T4 := c.1.1.1
  unfold hb_Pa_part_30 fb_M_parts0_127
  refine r_ck (fun _ => r_ck (fun _ => r_lt ?_))
  have sm1 : SMS w2 (upA w2 42 (upd (w2.2.2.1 42) v6.toNatClampNeg r)) := SMS_A SMS_rf (by unfold SMX; omega) (by omega)
  have s1 := STQ_s st sm1 rfl
  generalize hx1 : upA w2 42 (upd (w2.2.2.1 42) v6.toNatClampNeg r) = x1 at s1 ⊢
  have x70 : x1.1 70 = I (o : Nat) := by rw [← hx1]; exact h70
  have x73 : x1.1 73 = 0 := by rw [← hx1]; exact h73
  clear hx1 sm1
  have hc2 := RLP_c c s1.1
  have hw2 := RLP_w c s1.1
  have h2 := s1.1.2.2.2.2.2.2
  by_cases k38 : K q1 = 38
  · have ql : q1 < T := TWK_lt c s1.1.2.2.2.2.1 (by omega) (by omega)
    rw [need_e (s := 38) hc2 k38 (by decide) rfl, bTm_l, ndS_1 (s := 10) hw2 h2 (by decide) rfl k38, bnd_s, bTm_as]
    refine r_ck (fun _ => r_lt ?_)
    have s2 := STQ_ad s1 ql (by omega)
    have aI : ∀ k, k ≠ 69 → (adv x1 q1).1 k = x1.1 k := fun k hk => by unfold adv; rw [upI_ne hk]
    have sm2 : SMS (adv x1 q1) (upA (adv x1 q1) 43 (upd ((adv x1 q1).2.2.1 43) v6.toNatClampNeg ((adv x1 q1).1 32))) := SMS_A SMS_rf (by unfold SMX; omega) (by omega)
    have s3 := STQ_s s2 sm2 rfl
    generalize hx2 : upA (adv x1 q1) 43 (upd ((adv x1 q1).2.2.1 43) v6.toNatClampNeg ((adv x1 q1).1 32)) = x2 at s3 ⊢
    have y70 : x2.1 70 = I (o : Nat) := by rw [← hx2]; show (adv x1 q1).1 70 = _; rw [aI 70 (by decide)]; exact x70
    have y73 : x2.1 73 = 0 := by rw [← hx2]; show (adv x1 q1).1 73 = _; rw [aI 73 (by decide)]; exact x73
    clear hx2 sm2
    have nb := s3.2.1
    refine pp_bTn (hB D (advc m2 q1) x2 (q1 + 1) n1 sc3 o s3.1 s3.2.1.2.1 (by omega) (STQ_rn s3) (STQ_nd s3) y70 ho y73) (fun m3 φ u5 r5 hz => ?_) (fun m3 kk u5 r5 hz => ?_)
    · obtain ⟨lb, p4, n3, sc5, X3, W3, R3, Z3, CL3, d1, d2, d3, st5, d5, d6⟩ := hz
      have nb5 := st5.2.1
      have pT := st5.1.2.2.2.2.1
      rw [d1, add_e st5.2.1.2.1 (by omega), bnd_s, bTm_l]
      have stT := STQ_tr s3 st5
      have sx := stT.2.2.2.2.1.2.1
      cases sc5 with
      | nil => exact sx.elim
      | cons e5 t5 =>
      refine r_bnd (pk_mo ar_s (fun u6 _ h6 => ?_))
      have t1 := STQ_s stT h6.1 h6.2
      refine r_bnd (pk_mo (unb_p (STQ_rn t1) e1400) (fun u7 _ un => ?_))
      have t2 := STQ_cut (b := e.1.length) t1 (Nat.le_refl _) un (fun z => Bool.noConfusion z)
      refine r_bnd (pk_mo (node_s (kd := 26) (N := N) (by decide)) (fun u8 r8 h8 => ?_))
      have t3 := STQ_s t2 h8.1 h8.2.1
      obtain ⟨-, -, -, av, -, -, -, g6, g7⟩ := h8
      rw [g7]
      refine r_ck (fun _ => r_lt (r_ck (fun _ => r_lt ?_)))
      have k8 : u8.2.2.1 23 av ≠ 12 ∧ u8.2.2.1 23 av ≠ 15 := by rw [g6]; decide
      have t4 := STQ_s t3 (SMS_B (k := 25) (x := -2) (SMS_rf (w := u8)) (Or.inl rfl) k8) rfl
      generalize hx3 : upA u8 25 (upd (u8.2.2.1 25) av (-2)) = x3 at t4 ⊢
      have k9 : x3.2.2.1 23 av ≠ 12 ∧ x3.2.2.1 23 av ≠ 15 := by rw [← hx3, upA_no (by decide)]; exact k8
      clear hx3
      have t5' := STQ_s t4 (SMS_B (k := 26) (x := v2) (SMS_rf (w := x3)) (Or.inr (Or.inl rfl)) k9) rfl
      generalize upA x3 26 (upd (x3.2.2.1 26) av v2) = x4 at t5' ⊢
      have hnd : nod (adN m3 n3 25 (I (p : Nat)) (I ((lp.headD 0 : Nat) : Int)) (I ((lg.headD 0 : Nat) : Int)) (I ((lb.headD 0 : Nat) : Int))) (n3 + 1) = (25, I (p : Nat), I ((lp.headD 0 : Nat) : Int), I ((lg.headD 0 : Nat) : Int), I ((lb.headD 0 : Nat) : Int)) := adN_nod.1
      have t6 := STQ_add (a := 25) (b := I (p : Nat)) (c := I ((lp.headD 0 : Nat) : Int)) (d := I ((lg.headD 0 : Nat) : Int)) (f := I ((lb.headD 0 : Nat) : Int)) (STQ_s2 t5' (by omega : 1 + 1 ≤ _))
      have kcF : Kcc m3 (adN m3 n3 25 (I (p : Nat)) (I ((lp.headD 0 : Nat) : Int)) (I ((lg.headD 0 : Nat) : Int)) (I ((lb.headD 0 : Nat) : Int))) := PCG_k (PCG_add PCG_rf)
      have kc23 : Kcc m2 m3 := Kc_tr (PCG_k (PCG_I (m := m2) PCG_rf (Or.inr (Or.inr rfl)) : PCG m2 (advc m2 q1))) (PCG_k st5.2.2.2.1)
      have ko23 : KPO n1 m2 m3 := st5.2.2.1
      have koF : ∀ j, j ≤ n1 → nod (adN m3 n3 25 (I (p : Nat)) (I ((lp.headD 0 : Nat) : Int)) (I ((lg.headD 0 : Nat) : Int)) (I ((lb.headD 0 : Nat) : Int))) j = nod m2 j ∧ (adN m3 n3 25 (I (p : Nat)) (I ((lp.headD 0 : Nat) : Int)) (I ((lg.headD 0 : Nat) : Int)) (I ((lb.headD 0 : Nat) : Int))).2.2.1 21 j = m2.2.2.1 21 j := fun j hj => KPO_tr ko23 adN_o (by omega) j hj
      have sw := st.2.2.2.2.1
      have sb := st5.2.2.2.2.1
      have trb := trb_mk (N := N) (K := K) (nm := nm) (own := false) (m2 := adN m3 n3 25 (I (p : Nat)) (I ((lp.headD 0 : Nat) : Int)) (I ((lg.headD 0 : Nat) : Int)) (I ((lb.headD 0 : Nat) : Int))) (lo := n) (n2 := n3 + 1) (π := n3 + 1) (W := mrg (q1 + 1) W W3) hnd (by omega) (Nat.le_refl _) (by omega) (PRW_w (fun j _ h2 => mrg_l (by omega)) hp) ⟨fun j h1 h2 => ⟨(koF j (by omega)).1.trans (kp.1 j h1 h2).1, (koF j (by omega)).2.trans (kp.1 j h1 h2).2⟩, Kc_tr kp.2 (Kc_tr kc23 kcF)⟩ hl1 (by omega) hX1 (ERW_w (fun j _ h2 => mrg_l (by omega)) hg) ⟨fun j h1 h2 => ⟨(koF j (by omega)).1.trans (kg.1 j h1 h2).1, (koF j (by omega)).2.trans (kg.1 j h1 h2).2⟩, Kc_tr kg.2 (Kc_tr kc23 kcF)⟩ hl2 (by omega) BCo_st
      have trb' : TRB N K nm false (adN m3 n3 25 (I (p : Nat)) (I ((lp.headD 0 : Nat) : Int)) (I ((lg.headD 0 : Nat) : Int)) (I ((lb.headD 0 : Nat) : Int))) n (n3 + 1) (n3 + 1) p q1 (e :: t) sc3 (max X1 X2) (mrg (q1 + 1) W W3) R1 Z1 (BCo N CL1) := by
        cases R1 with
        | false => rw [hR1 rfl]; exact trb
        | true => exact TRB_any trb
      have bdb : BDB N K nm (adN m3 n3 25 (I (p : Nat)) (I ((lp.headD 0 : Nat) : Int)) (I ((lg.headD 0 : Nat) : Int)) (I ((lb.headD 0 : Nat) : Int))) n (n3 + 1) (n3 + 1) q1 p4 sc3 (e5 :: t5) X3 (mrg (q1 + 1) W W3) R3 Z3 (BCo N CL3) := bdb_mk (mb := m3) (l3 := n1) (nb := n3) hnd (by omega) (Nat.le_refl _) (by omega) (ERW_g (q := q1 + 1) (by omega) (fun j h1 h2 => by rw [show j = q1 by omega]; omega) d2 (ERW_w (fun j h1 _ => mrg_r h1) d5)) ⟨fun j _ h2 => adN_o j h2, kcF⟩ (by omega) (by omega)
      have pz : PAR N m0 w0 K T nm Nk p n e t m w (adN m3 n3 25 (I (p : Nat)) (I ((lp.headD 0 : Nat) : Int)) (I ((lg.headD 0 : Nat) : Int)) (I ((lb.headD 0 : Nat) : Int))) (I ((n3 + 1 : Nat) : Int)) x4 := ⟨n3 + 1, p4, n3 + 1, q1, sc3, e5, t5, max X1 X2, X3, mrg (q1 + 1) W W3, R1, R3, Z1, Z3, CL1, CL3, rfl, ⟨by omega, Nat.le_refl _⟩, ⟨by omega, by omega⟩, t6, trb', bdb, adN_nod.2, ⟨⟨sw.2.2.2.1.1, SCX_len sw.2.1, sw.2.2.2.1.2⟩, by have := sb.2.2.2.1.1; omega, SCX_len sb.2.1, sb.2.2.2.1.2⟩, cut_mk sx, cut_nm sx⟩
      obtain ⟨π, p2, n2, qq, s1', e3, t3', Y1, Y2, W', A1, A2, B1, B2, C1, C2, q0, q00, q000, stz, rest⟩ := id pz
      refine r_br (fun _ => hC _ _ x4 _ _ hv6 pz) (fun y4 => r_ck (fun _ => r_lt ?_))
      have n3' : v3 ≠ -1 := h34.resolve_left (of_decide_eq_false y4)
      have sm5 : SMS x4 (upA x4 45 (upd (x4.2.2.1 45) v4.toNatClampNeg v6)) := SMS_A SMS_rf (by unfold SMX; omega) (by omega)
      exact hC _ _ _ _ _ n3' ⟨π, p2, n2, qq, s1', e3, t3', Y1, Y2, W', A1, A2, B1, B2, C1, C2, q0, q00, q000, STQ_s stz sm5 rfl, rest⟩
    · have hz : Kfc u5 u5 := hz
      refine pk_mo (Q := fun w2 (_ : Int32) => FLW w2) ?_ (fun v r hv => hW _ _ v r hv)
      refine Kf_pk (u0 := u5) ?_
      obtain ⟨hF0, hF1, hF2, hF3, hF4, hF5, hF6, hF7, hF8, hF9, hF10, hF11, hF12, hF13, hF14, hF15, hF16⟩ := yf_rc_M_behind (u0 := u5) (N := N) d
      repeat' (first | with_reducible assumption | with_reducible refine Kf_br ?_ ?_ | with_reducible refine Kf_bnd ?_ (fun _ _ _ => ?_) | with_reducible refine Kf_ck ?_ | with_reducible refine Kf_ltm ?_ (fun _ _ => ?_) | with_reducible refine Kf_some ?_ | with_reducible refine Kf_bo (fun _ => ?_) | with_reducible exact yf_fm_M_node (by assumption) | with_reducible exact yf_fm_M_pattern (by assumption) | with_reducible exact yf_fm_M_wrong (by assumption) | with_reducible exact yf_fm_M_rule (by assumption) | with_reducible exact yf_fm_M_isSign (by assumption) | with_reducible exact yf_fm_M_isWord (by assumption) | with_reducible exact yf_fm_M_takeSign (by assumption) | with_reducible exact yf_fm_M_takeWord (by assumption) | with_reducible exact yf_fm_M_needSign (by assumption) | with_reducible exact yf_fm_M_needWord (by assumption) | with_reducible exact yf_fm_M_opens (by assumption) | with_reducible exact yf_fm_M_boundIn (by assumption) | with_reducible exact yf_fr_M_found (by assumption) | with_reducible exact yf_fm_M_bind (by assumption) | with_reducible exact yf_fm_M_isUnderscore (by assumption) | with_reducible exact yf_fm_M_unbind (by assumption) | with_reducible exact yf_fm_M_term (by assumption) | with_reducible exact yf_fm_M_namePattern (by assumption) | with_reducible exact yf_fr_M_patternAt (by assumption) | with_reducible exact yf_fm_M_beginsUnit (by assumption) | with_reducible exact yf_fm_M_save (by assumption) | with_reducible exact yf_fm_M_addRoot (by assumption) | with_reducible exact yf_fm_M_level (by assumption) | with_reducible exact yf_fm_M_reduce (by assumption) | with_reducible exact yf_fm_M_takeBack (by assumption) | with_reducible exact yf_fm_M_forgetSaved (by assumption) | with_reducible exact yf_fr_M_last (by assumption) | with_reducible exact yf_fr_M_clause (by assumption) | with_reducible exact yf_fm_M_predefinedOf (by assumption) | with_reducible exact yf_fm_M_function0 (by assumption) | with_reducible exact yf_fm_M_program (by assumption) | with_reducible exact hF0 _ (by assumption) | with_reducible exact hF1 _ _ (by assumption) | with_reducible exact hF2 _ _ _ (by assumption) | with_reducible exact hF3 _ _ _ (by assumption) | with_reducible exact hF4 _ (by assumption) | with_reducible exact hF5 _ _ (by assumption) | with_reducible exact hF6 _ _ (by assumption) | with_reducible exact hF7 _ _ (by assumption) | with_reducible exact hF8 _ _ (by assumption) | with_reducible exact hF9 _ (by assumption) | with_reducible exact hF10 _ (by assumption) | with_reducible exact hF11 _ (by assumption) | with_reducible exact hF12 _ (by assumption) | with_reducible exact hF13 _ (by assumption) | with_reducible exact hF14 _ (by assumption) | with_reducible exact hF15 _ (by assumption) | with_reducible exact hF16 _ _ (by assumption) | with_reducible exact yf_fb_M_parts0_214 (by assumption) hF0 hF1 hF2 hF3 hF4 hF5 hF6 hF7 hF8 hF9 hF10 hF11 hF12 hF13 hF14 hF15 hF16 (yf_gg_M_parts0 hF0 hF1 hF2 hF3 hF4 hF5 hF6 hF7 hF8 hF9 hF10 hF11 hF12 hF13 hF14 hF15 hF16 _) | with_reducible exact yf_fb_M_parts0_127 (by assumption) hF0 hF1 hF2 hF3 hF4 hF5 hF6 hF7 hF8 hF9 hF10 hF11 hF12 hF13 hF14 hF15 hF16 (yf_gg_M_parts0 hF0 hF1 hF2 hF3 hF4 hF5 hF6 hF7 hF8 hF9 hF10 hF11 hF12 hF13 hF14 hF15 hF16 _) | with_reducible exact yf_fb_M_parts0_105 (by assumption) hF0 hF1 hF2 hF3 hF4 hF5 hF6 hF7 hF8 hF9 hF10 hF11 hF12 hF13 hF14 hF15 hF16 (yf_gg_M_parts0 hF0 hF1 hF2 hF3 hF4 hF5 hF6 hF7 hF8 hF9 hF10 hF11 hF12 hF13 hF14 hF15 hF16 _) | with_reducible exact yf_fb_M_parts0_74 (by assumption) hF0 hF1 hF2 hF3 hF4 hF5 hF6 hF7 hF8 hF9 hF10 hF11 hF12 hF13 hF14 hF15 hF16 (yf_gg_M_parts0 hF0 hF1 hF2 hF3 hF4 hF5 hF6 hF7 hF8 hF9 hF10 hF11 hF12 hF13 hF14 hF15 hF16 _) | with_reducible exact yf_fb_M_parts0_19 (by assumption) hF0 hF1 hF2 hF3 hF4 hF5 hF6 hF7 hF8 hF9 hF10 hF11 hF12 hF13 hF14 hF15 hF16 (yf_gg_M_parts0 hF0 hF1 hF2 hF3 hF4 hF5 hF6 hF7 hF8 hF9 hF10 hF11 hF12 hF13 hF14 hF15 hF16 _) | with_reducible exact yf_fb_M_parts0_17 (by assumption) hF0 hF1 hF2 hF3 hF4 hF5 hF6 hF7 hF8 hF9 hF10 hF11 hF12 hF13 hF14 hF15 hF16 (yf_gg_M_parts0 hF0 hF1 hF2 hF3 hF4 hF5 hF6 hF7 hF8 hF9 hF10 hF11 hF12 hF13 hF14 hF15 hF16 _) | with_reducible exact yf_fb_M_parts0_0 (by assumption) hF0 hF1 hF2 hF3 hF4 hF5 hF6 hF7 hF8 hF9 hF10 hF11 hF12 hF13 hF14 hF15 hF16 (yf_gg_M_parts0 hF0 hF1 hF2 hF3 hF4 hF5 hF6 hF7 hF8 hF9 hF10 hF11 hF12 hF13 hF14 hF15 hF16 _) | with_reducible exact (yf_gg_M_parts0 hF0 hF1 hF2 hF3 hF4 hF5 hF6 hF7 hF8 hF9 hF10 hF11 hF12 hF13 hF14 hF15 hF16 _) _ _ _ _ _ _ (by assumption) | with_reducible refine Kf_ltv (fun _ => ?_) | with_reducible refine Kf_I ?_ (by decide) | with_reducible refine Kf_A ?_ | with_reducible refine Kf_J ?_ | with_reducible refine Kf_L ?_)
  · refine pp_rf (RFS_T (RFS_T (need_x (s := 38) hc2 k38 (by decide) rfl))) (fun mm => ?_)
    refine pk_mo (Q := fun w2 (_ : Int32) => FLW w2) ?_ (fun v r hv => hW _ _ v r hv)
    refine pk_bnd (pk_mo (ndS_0 (N := N) (s := 10) hw2 h2 (by decide) rfl k38) (fun v r2 z => ?_))
    have hz : Kfc v v := z
    refine Kf_pk (u0 := v) ?_
    obtain ⟨hF0, hF1, hF2, hF3, hF4, hF5, hF6, hF7, hF8, hF9, hF10, hF11, hF12, hF13, hF14, hF15, hF16⟩ := yf_rc_M_behind (u0 := v) (N := N) d
    repeat' (first | with_reducible assumption | with_reducible refine Kf_br ?_ ?_ | with_reducible refine Kf_bnd ?_ (fun _ _ _ => ?_) | with_reducible refine Kf_ck ?_ | with_reducible refine Kf_ltm ?_ (fun _ _ => ?_) | with_reducible refine Kf_some ?_ | with_reducible refine Kf_bo (fun _ => ?_) | with_reducible exact yf_fm_M_node (by assumption) | with_reducible exact yf_fm_M_pattern (by assumption) | with_reducible exact yf_fm_M_wrong (by assumption) | with_reducible exact yf_fm_M_rule (by assumption) | with_reducible exact yf_fm_M_isSign (by assumption) | with_reducible exact yf_fm_M_isWord (by assumption) | with_reducible exact yf_fm_M_takeSign (by assumption) | with_reducible exact yf_fm_M_takeWord (by assumption) | with_reducible exact yf_fm_M_needSign (by assumption) | with_reducible exact yf_fm_M_needWord (by assumption) | with_reducible exact yf_fm_M_opens (by assumption) | with_reducible exact yf_fm_M_boundIn (by assumption) | with_reducible exact yf_fr_M_found (by assumption) | with_reducible exact yf_fm_M_bind (by assumption) | with_reducible exact yf_fm_M_isUnderscore (by assumption) | with_reducible exact yf_fm_M_unbind (by assumption) | with_reducible exact yf_fm_M_term (by assumption) | with_reducible exact yf_fm_M_namePattern (by assumption) | with_reducible exact yf_fr_M_patternAt (by assumption) | with_reducible exact yf_fm_M_beginsUnit (by assumption) | with_reducible exact yf_fm_M_save (by assumption) | with_reducible exact yf_fm_M_addRoot (by assumption) | with_reducible exact yf_fm_M_level (by assumption) | with_reducible exact yf_fm_M_reduce (by assumption) | with_reducible exact yf_fm_M_takeBack (by assumption) | with_reducible exact yf_fm_M_forgetSaved (by assumption) | with_reducible exact yf_fr_M_last (by assumption) | with_reducible exact yf_fr_M_clause (by assumption) | with_reducible exact yf_fm_M_predefinedOf (by assumption) | with_reducible exact yf_fm_M_function0 (by assumption) | with_reducible exact yf_fm_M_program (by assumption) | with_reducible exact hF0 _ (by assumption) | with_reducible exact hF1 _ _ (by assumption) | with_reducible exact hF2 _ _ _ (by assumption) | with_reducible exact hF3 _ _ _ (by assumption) | with_reducible exact hF4 _ (by assumption) | with_reducible exact hF5 _ _ (by assumption) | with_reducible exact hF6 _ _ (by assumption) | with_reducible exact hF7 _ _ (by assumption) | with_reducible exact hF8 _ _ (by assumption) | with_reducible exact hF9 _ (by assumption) | with_reducible exact hF10 _ (by assumption) | with_reducible exact hF11 _ (by assumption) | with_reducible exact hF12 _ (by assumption) | with_reducible exact hF13 _ (by assumption) | with_reducible exact hF14 _ (by assumption) | with_reducible exact hF15 _ (by assumption) | with_reducible exact hF16 _ _ (by assumption) | with_reducible exact yf_fb_M_parts0_214 (by assumption) hF0 hF1 hF2 hF3 hF4 hF5 hF6 hF7 hF8 hF9 hF10 hF11 hF12 hF13 hF14 hF15 hF16 (yf_gg_M_parts0 hF0 hF1 hF2 hF3 hF4 hF5 hF6 hF7 hF8 hF9 hF10 hF11 hF12 hF13 hF14 hF15 hF16 _) | with_reducible exact yf_fb_M_parts0_127 (by assumption) hF0 hF1 hF2 hF3 hF4 hF5 hF6 hF7 hF8 hF9 hF10 hF11 hF12 hF13 hF14 hF15 hF16 (yf_gg_M_parts0 hF0 hF1 hF2 hF3 hF4 hF5 hF6 hF7 hF8 hF9 hF10 hF11 hF12 hF13 hF14 hF15 hF16 _) | with_reducible exact yf_fb_M_parts0_105 (by assumption) hF0 hF1 hF2 hF3 hF4 hF5 hF6 hF7 hF8 hF9 hF10 hF11 hF12 hF13 hF14 hF15 hF16 (yf_gg_M_parts0 hF0 hF1 hF2 hF3 hF4 hF5 hF6 hF7 hF8 hF9 hF10 hF11 hF12 hF13 hF14 hF15 hF16 _) | with_reducible exact yf_fb_M_parts0_74 (by assumption) hF0 hF1 hF2 hF3 hF4 hF5 hF6 hF7 hF8 hF9 hF10 hF11 hF12 hF13 hF14 hF15 hF16 (yf_gg_M_parts0 hF0 hF1 hF2 hF3 hF4 hF5 hF6 hF7 hF8 hF9 hF10 hF11 hF12 hF13 hF14 hF15 hF16 _) | with_reducible exact yf_fb_M_parts0_19 (by assumption) hF0 hF1 hF2 hF3 hF4 hF5 hF6 hF7 hF8 hF9 hF10 hF11 hF12 hF13 hF14 hF15 hF16 (yf_gg_M_parts0 hF0 hF1 hF2 hF3 hF4 hF5 hF6 hF7 hF8 hF9 hF10 hF11 hF12 hF13 hF14 hF15 hF16 _) | with_reducible exact yf_fb_M_parts0_17 (by assumption) hF0 hF1 hF2 hF3 hF4 hF5 hF6 hF7 hF8 hF9 hF10 hF11 hF12 hF13 hF14 hF15 hF16 (yf_gg_M_parts0 hF0 hF1 hF2 hF3 hF4 hF5 hF6 hF7 hF8 hF9 hF10 hF11 hF12 hF13 hF14 hF15 hF16 _) | with_reducible exact yf_fb_M_parts0_0 (by assumption) hF0 hF1 hF2 hF3 hF4 hF5 hF6 hF7 hF8 hF9 hF10 hF11 hF12 hF13 hF14 hF15 hF16 (yf_gg_M_parts0 hF0 hF1 hF2 hF3 hF4 hF5 hF6 hF7 hF8 hF9 hF10 hF11 hF12 hF13 hF14 hF15 hF16 _) | with_reducible exact (yf_gg_M_parts0 hF0 hF1 hF2 hF3 hF4 hF5 hF6 hF7 hF8 hF9 hF10 hF11 hF12 hF13 hF14 hF15 hF16 _) _ _ _ _ _ _ (by assumption) | with_reducible refine Kf_ltv (fun _ => ?_) | with_reducible refine Kf_I ?_ (by decide) | with_reducible refine Kf_A ?_ | with_reducible refine Kf_J ?_ | with_reducible refine Kf_L ?_)
end
end
section
set_option maxRecDepth 100000
section
variable {α : Type} {R : MS → Int32 ⊕ Nat → MS → Int32 → Prop} {A : Option (MS × α)} {m0 w0 m w v u m2 m3 w2 x y z mF mB wB mp mg : MS} {K nm Nk W W1 W2 WA WB : Nat → Nat} {T p n N q q1 X Y X1 X2 XA n1 n2 n3 lo l1 l2 np ng p2 p4 ν μ π a b L L' k d o M D s : Nat} {sc sc1 sc2 sc3 sc4 sc5 t t2 t3 t4 t5 : SCT} {e e2 e3 e4 e5 : List Nat × List Nat × Nat} {gd Rf Rg Zf R1 Z1 own : Bool} {BC : MS → Prop} {v1 v2 v3 v4 v5 v6 r ξ : Int32} {S : SG_M_behind} {NC : Nat → Prop} {CL CM CL1 : Int32 × Int32 × Int32 → Prop} {l lp lg : List Nat}
theorem pp_kr {β γ : Type} {R' : MS → γ → MS → β → Prop} {Q : MS → β → Prop} {a : Option (MS × γ)} {b : Option (MS × β)} (h : PP R' a b) (k : PK Q b) : PP (fun m z w r => R' m z w r ∧ Q w r) a b := fun m z w r e1 e2 => ⟨h m z w r e1 e2, k w r e2⟩
theorem e60_p (hR : RNs w (e :: t)) : w.2.2.1 60 (w.1 65).toNatClampNeg = I (e.1.length : Nat) := by
  have hl : 1 ≤ t.length + 1 ∧ t.length + 1 ≤ 27 := hR.2.1
  have s65 : (w.1 65).toNatClampNeg = t.length := by
    rw [hR.1]
    exact tnI (n := t.length) rfl (by omega)
  rw [s65]; exact hR.2.2.1.1.1
theorem e1400_p (hR : RNs w (e :: t)) : e.1.length ≤ 1400 := by
  have := hR.2.2.2.1
  have a := this.2.2.2.1
  have b := this.2.2.2.2.1
  omega
theorem par_hd {A' : Option (MS × (Int32 ⊕ Nat))} {F : MS → Option (MS × Int32)} (hR : RNs w (e :: t)) (h : ∀ x v6, v6 ≠ -1 → SMS w x → x.1 69 = w.1 69 → PP R A' (if v1 = 0 then bnd (fr_M_patternAt N x 0) (fun u17 r17 => fb_M_parts0_105 N S (gg_M_parts0 N S M) u17 v1 v2 v3 v4 v6 (I (e.1.length : Nat)) 40 v6 r17) else fb_M_parts0_105 N S (gg_M_parts0 N S M) x v1 v2 v3 v4 v6 (I (e.1.length : Nat)) 40 v6 (-1))) : PP R A' (fb_M_parts0_19 N S (gg_M_parts0 N S M) w v1 v2 v3 v4 1) := by
  unfold fb_M_parts0_19
  rw [show decide ((1 : Int32) = 0) = false from rfl, br_fq]
  refine r_lt (r_ck (fun y6 => r_lt (r_ck (fun _ => r_lt ?_))))
  have n6 : w.1 46 ≠ -1 := fun z => by rw [z] at y6; exact absurd y6 (by decide)
  have sm : SMS w (upA (upA (upI w 46 (w.1 46 + 1)) 44 (upd ((upI w 46 (w.1 46 + 1)).2.2.1 44) (w.1 46).toNatClampNeg ((upI w 46 (w.1 46 + 1)).1 69))) 45 (upd ((upA (upI w 46 (w.1 46 + 1)) 44 (upd ((upI w 46 (w.1 46 + 1)).2.2.1 44) (w.1 46).toNatClampNeg ((upI w 46 (w.1 46 + 1)).1 69))).2.2.1 45) (w.1 46).toNatClampNeg (-1))) := SMS_A (SMS_A (SMS_I SMS_rf (by decide) (by decide)) (by unfold SMX; omega) (by omega)) (by unfold SMX; omega) (by omega)
  generalize hx : upA (upA (upI w 46 (w.1 46 + 1)) 44 (upd ((upI w 46 (w.1 46 + 1)).2.2.1 44) (w.1 46).toNatClampNeg ((upI w 46 (w.1 46 + 1)).1 69))) 45 (upd ((upA (upI w 46 (w.1 46 + 1)) 44 (upd ((upI w 46 (w.1 46 + 1)).2.2.1 44) (w.1 46).toNatClampNeg ((upI w 46 (w.1 46 + 1)).1 69))).2.2.1 45) (w.1 46).toNatClampNeg (-1)) = x at sm ⊢
  have x69 : x.1 69 = w.1 69 := by
    rw [← hx]
    show (upI w 46 (w.1 46 + 1)).1 69 = _
    exact upI_ne (by decide)
  clear hx
  have go : ∀ t2, PP R A' (fb_M_parts0_74 N S (gg_M_parts0 N S M) x v1 v2 v3 v4 (w.1 46) 41 (w.1 46) t2) := fun t2 => by
    unfold fb_M_parts0_74
    refine r_ck (fun _ => r_ck (fun _ => r_lt ?_))
    have sm2 : SMS w (upA x 41 (upd (x.2.2.1 41) (w.1 46).toNatClampNeg t2)) := SMS_A sm (by unfold SMX; omega) (by omega)
    have y69 : (upA x 41 (upd (x.2.2.1 41) (w.1 46).toNatClampNeg t2)).1 69 = w.1 69 := x69
    generalize upA x 41 (upd (x.2.2.1 41) (w.1 46).toNatClampNeg t2) = y at sm2 y69 ⊢
    have ry : RNs y (e :: t) := RNs_e hR (sm2.1 65 (by decide)) (fun k h1 h2 => sm2.2.1 k (by unfold SMX; omega))
    rw [e60_p ry]
    refine r_ck (fun _ => r_lt ?_)
    have := h y (w.1 46) n6 sm2 y69
    by_cases z : v1 = 0
    · rw [if_pos z] at this
      rw [decide_eq_true z, br_tq]; exact this
    · rw [if_neg z] at this
      rw [decide_eq_false z, br_fq]; exact this
  exact r_br (fun _ => go 1) (fun _ => go 0)
theorem cas_pp {F : MS → Int32 → Option (MS × (Int32 ⊕ Nat))} (c : CTZ m0 w0 K T nm Nk) (c45 : ∀ p, p ≤ T → K p ≠ 45) (hB : HBo N m0 w0 K T nm Nk d) (hG : ∀ d', d' ≤ d → HGc N m0 w0 K T nm Nk d') (hW : ∀ m k w r, FLW w → R m (.inr k) w r) (h : RLP m0 w0 T p m w) (hn : m.1 306 = I (n : Nat)) (hn0 : n ≤ 2 * p) (hR : RNs w (e :: t)) (nd : ND w) (h70 : w.1 70 = I (o : Nat)) (ho : o ≤ 25) (h73 : w.1 73 = 0)
    (h34 : v4 = -1 ∨ v3 ≠ -1)
    (hC : ∀ m3 ρ w3 a b, a ≠ -1 → PAR N m0 w0 K T nm Nk p n e t m w m3 ρ w3 → PP R (F m3 ρ) (fb_M_parts0_214 N (rc_M_behind N d) (gg_M_parts0 N (rc_M_behind N d) M) w3 0 v2 a b)) :
    PP R (bTm ((hrc_Pa_matched N D).2.2.2.2.2.2.1 m) F) (fb_M_parts0_19 N (rc_M_behind N d) (gg_M_parts0 N (rc_M_behind N d) M) w 0 v2 v3 v4 1) := by
  have T4 := c.1.1.1
  have e1400 := e1400_p hR
  cases D with
  | zero => exact pp_nl
  | succ D =>
  refine par_hd (F := fun _ => none) hR (fun x v6 n6 sx x69 => ?_)
  rw [if_pos rfl]
  show PP R (bTm (hb_Pa_oneCase_0 N (hrc_Pa_matched N D) () m) F) _
  unfold hb_Pa_oneCase_0
  rw [bTm_as]
  have s0 := STQ_s (STQ_0 (K := K) (Nk := Nk) (gd := false) (W := fun _ => 32) h hn hR nd) sx x69
  have x70 : x.1 70 = I (o : Nat) := by rw [sx.1 70 (by decide)]; exact h70
  have x73 : x.1 73 = 0 := by rw [sx.1 73 (by decide)]; exact h73
  refine pp_bTn (pp_kr (pts_all (own := false) c rfl 60 D m x p n (e :: t) s0.1 hn hn0 (STQ_rn s0)) (yj_fr_M_patternAt (u0 := x) (v1 := 0) (N := N) Kj_rf)) (fun m2 ε u r hz => ?_) (fun m2 k u r hz => ?_)
  · obtain ⟨pz, kj⟩ := hz
    obtain ⟨q, n2, ν, sc2, X, W, a1, a2, a3, st, a5, a6⟩ := STQ_pat pz kj (STQ_nd s0)
    rw [a1, h.2.2.1, bTm_id]
    have st1 := STQ_tr s0 st
    have u70 : u.1 70 = I (o : Nat) := by rw [st.2.2.2.2.1.2.2.2.2.2.2.1.1 70 (by decide)]; exact x70
    have u73 : u.1 73 = 0 := by rw [st.2.2.2.2.1.2.2.2.2.2.2.1.1 73 (by decide)]; exact x73
    unfold fb_M_parts0_105
    refine r_ck (fun _ => r_ck (fun _ => r_lt ?_))
    rw [show decide ((0 : Int32) = 0) = true from rfl, br_tq]
    have sm1 : SMS u (upA u 40 (upd (u.2.2.1 40) v6.toNatClampNeg r)) := SMS_A SMS_rf (by unfold SMX; omega) (by omega)
    have s1 := STQ_s st1 sm1 rfl
    generalize hy : upA u 40 (upd (u.2.2.1 40) v6.toNatClampNeg r) = y at s1 ⊢
    have y70 : y.1 70 = I (o : Nat) := by rw [← hy]; exact u70
    have y73 : y.1 73 = 0 := by rw [← hy]; exact u73
    clear hy sm1
    have nb := s1.2.1
    have hc2 := RLP_c c s1.1
    have hw2 := RLP_w c s1.1
    have h2 := s1.1.2.2.2.2.2.2
    have qT := s1.1.2.2.2.2.1
    have k46 := hc2.1.1.k46 hc2.2.2
    have sw := st.2.2.2.2.1
    have hpr : PRW N K nm m2 n n2 false W [ν] p q (e :: t) sc2 X := PRW_1 a6 (by omega) ⟨by omega, a2.2⟩ a2.1 a5 sw.2.2.2.1.1 (SCX_len sw.2.1)
    cases d with
    | zero => exact pp_nr
    | succ d =>
    cases D with
    | zero => exact pp_nl
    | succ D =>
    show PP R (bTm (hb_Pa_part_0 N (hrc_Pa_matched N D) () m2 (I (p : Nat)) (I (ν : Nat))) F) (bnd (fb_M_guard_0 N (rc_M_behind N d) () y) _)
    unfold hb_Pa_part_0 fb_M_guard_0
    rw [look_e hc2 (c45 _ qT), bTm_l, I_dn (a := K q) (b := 19) (s := 19) (by omega) (by decide) rfl, tkW_e (k := 19) (s := 14) hw2 h2 (by decide) rfl]
    by_cases k19 : K q = 19
    · have ql : q < T := TWK_lt c qT (by omega) (by omega)
      rw [decide_eq_true k19, br_tq, if_pos k19, bnd_s, show decide ((1 : Int32) = 0) = false from rfl, br_fq, bnd_as2, hc2.2.1, i_suc]
      have s2 := STQ_ad s1 ql (by omega)
      have aI : ∀ k, k ≠ 69 → (adv y q).1 k = y.1 k := fun k hk => by unfold adv; rw [upI_ne hk]
      show PP R (bTm (bTm ((hrc_Pa_matched N D).2.2.2.2.2.2.2.2.2.2.2.2.2.2.2.2.2.2.1 (advc m2 q) 0 4000) (fun u9 r9 => hb_Pa_part_30 N (hrc_Pa_matched N D) () u9 (I (p : Nat)) (I (ν : Nat)) r9)) F) _
      rw [bTm_as]
      refine pp_bTn (hG d (by omega) D (advc m2 q) (adv y q) (q + 1) n2 sc2 o s2.1 s2.2.1.2.1 (by have := s2.2.1; omega) (STQ_rn s2) (STQ_nd s2) (by rw [aI 70 (by decide)]; exact y70) ho (by rw [aI 73 (by decide)]; exact y73)) (fun m3 φ u3 r3 hz => ?_) (fun m3 k3 u3 r3 hz => ?_)
      · obtain ⟨lg, q3, n3, sg, s3c, Xg, Wg, Rg, Zg, CLg, d1, d2, d3, stg, d5, d6, d7, d8⟩ := hz
        rw [d1, bnd_s]
        have nb3 := stg.2.1
        have stt := STQ_cl (CM := CLg) (fun x => ⟨fun z => z.elim (fun y => y.elim False.elim False.elim) id, Or.inr⟩) (STQ_tr s2 stg)
        have f7 := stg.2.2.2.2.1.2.2.2.2.2.2.1
        have stt : STQ m0 w0 K T Nk false m w p n (e :: t) (0 + 1 + 2 + 1) m3 u3 q3 n3 s3c (max X Xg) (mrg (q + 1) (mrg p (fun _ => 32) W) Wg) Rg Zg CLg := by
          have := stt
          rw [Nat.zero_max, Bool.false_or, Bool.false_or, Bool.false_or] at this
          exact this
        refine part_tl (lp := [ν]) (lg := lg) (q := q) (X1 := X) (X2 := Xg) (mp := m2) (l1 := n) (np := n2) (mg := m3) (l2 := n2) (ng := n3) (sc2 := sg) (sc1 := sc2) c hB hW stt hn0 ⟨by omega, by omega⟩ ?_ ho ?_ e1400 (PRW_w (fun j h1 h2 => by rw [mrg_l (by omega), mrg_r h1]) hpr) ⟨fun j h1 h2 => stg.2.2.1 j h2, Kc_tr (PCG_k (PCG_I (m := m2) PCG_rf (Or.inr (Or.inr rfl)) : PCG m2 (advc m2 q))) (PCG_k stg.2.2.2.1)⟩ (Nat.le_refl _) (by omega) sw.2.2.2.1.2 (ERW_g (q := q + 1) (by omega) (fun j h1 h2 => by rw [show j = q by omega]; omega) d2 (ERW_w (fun j h1 _ => mrg_r h1) d5)) ⟨fun j _ _ => ⟨rfl, rfl⟩, Kc_rf⟩ (by omega) (Nat.le_refl _) d6 n6 h34 hC
        · rw [f7.1 70 (by decide), aI 70 (by decide)]; exact y70
        · rw [f7.1 73 (by decide), aI 73 (by decide)]; exact y73
      · have hz : Kfc u3 u3 := hz
        refine pk_mo (Q := fun w2 (_ : Int32) => FLW w2) ?_ (fun v r hv => hW _ _ v r hv)
        refine Kf_pk (u0 := u3) ?_
        obtain ⟨hF0, hF1, hF2, hF3, hF4, hF5, hF6, hF7, hF8, hF9, hF10, hF11, hF12, hF13, hF14, hF15, hF16⟩ := yf_rc_M_behind (u0 := u3) (N := N) (d+1)
        repeat' (first | with_reducible assumption | with_reducible refine Kf_br ?_ ?_ | with_reducible refine Kf_bnd ?_ (fun _ _ _ => ?_) | with_reducible refine Kf_ck ?_ | with_reducible refine Kf_ltm ?_ (fun _ _ => ?_) | with_reducible refine Kf_some ?_ | with_reducible refine Kf_bo (fun _ => ?_) | with_reducible exact yf_fm_M_node (by assumption) | with_reducible exact yf_fm_M_pattern (by assumption) | with_reducible exact yf_fm_M_wrong (by assumption) | with_reducible exact yf_fm_M_rule (by assumption) | with_reducible exact yf_fm_M_isSign (by assumption) | with_reducible exact yf_fm_M_isWord (by assumption) | with_reducible exact yf_fm_M_takeSign (by assumption) | with_reducible exact yf_fm_M_takeWord (by assumption) | with_reducible exact yf_fm_M_needSign (by assumption) | with_reducible exact yf_fm_M_needWord (by assumption) | with_reducible exact yf_fm_M_opens (by assumption) | with_reducible exact yf_fm_M_boundIn (by assumption) | with_reducible exact yf_fr_M_found (by assumption) | with_reducible exact yf_fm_M_bind (by assumption) | with_reducible exact yf_fm_M_isUnderscore (by assumption) | with_reducible exact yf_fm_M_unbind (by assumption) | with_reducible exact yf_fm_M_term (by assumption) | with_reducible exact yf_fm_M_namePattern (by assumption) | with_reducible exact yf_fr_M_patternAt (by assumption) | with_reducible exact yf_fm_M_beginsUnit (by assumption) | with_reducible exact yf_fm_M_save (by assumption) | with_reducible exact yf_fm_M_addRoot (by assumption) | with_reducible exact yf_fm_M_level (by assumption) | with_reducible exact yf_fm_M_reduce (by assumption) | with_reducible exact yf_fm_M_takeBack (by assumption) | with_reducible exact yf_fm_M_forgetSaved (by assumption) | with_reducible exact yf_fr_M_last (by assumption) | with_reducible exact yf_fr_M_clause (by assumption) | with_reducible exact yf_fm_M_predefinedOf (by assumption) | with_reducible exact yf_fm_M_function0 (by assumption) | with_reducible exact yf_fm_M_program (by assumption) | with_reducible exact hF0 _ (by assumption) | with_reducible exact hF1 _ _ (by assumption) | with_reducible exact hF2 _ _ _ (by assumption) | with_reducible exact hF3 _ _ _ (by assumption) | with_reducible exact hF4 _ (by assumption) | with_reducible exact hF5 _ _ (by assumption) | with_reducible exact hF6 _ _ (by assumption) | with_reducible exact hF7 _ _ (by assumption) | with_reducible exact hF8 _ _ (by assumption) | with_reducible exact hF9 _ (by assumption) | with_reducible exact hF10 _ (by assumption) | with_reducible exact hF11 _ (by assumption) | with_reducible exact hF12 _ (by assumption) | with_reducible exact hF13 _ (by assumption) | with_reducible exact hF14 _ (by assumption) | with_reducible exact hF15 _ (by assumption) | with_reducible exact hF16 _ _ (by assumption) | with_reducible exact yf_fb_M_parts0_214 (by assumption) hF0 hF1 hF2 hF3 hF4 hF5 hF6 hF7 hF8 hF9 hF10 hF11 hF12 hF13 hF14 hF15 hF16 (yf_gg_M_parts0 hF0 hF1 hF2 hF3 hF4 hF5 hF6 hF7 hF8 hF9 hF10 hF11 hF12 hF13 hF14 hF15 hF16 _) | with_reducible exact yf_fb_M_parts0_127 (by assumption) hF0 hF1 hF2 hF3 hF4 hF5 hF6 hF7 hF8 hF9 hF10 hF11 hF12 hF13 hF14 hF15 hF16 (yf_gg_M_parts0 hF0 hF1 hF2 hF3 hF4 hF5 hF6 hF7 hF8 hF9 hF10 hF11 hF12 hF13 hF14 hF15 hF16 _) | with_reducible exact yf_fb_M_parts0_105 (by assumption) hF0 hF1 hF2 hF3 hF4 hF5 hF6 hF7 hF8 hF9 hF10 hF11 hF12 hF13 hF14 hF15 hF16 (yf_gg_M_parts0 hF0 hF1 hF2 hF3 hF4 hF5 hF6 hF7 hF8 hF9 hF10 hF11 hF12 hF13 hF14 hF15 hF16 _) | with_reducible exact yf_fb_M_parts0_74 (by assumption) hF0 hF1 hF2 hF3 hF4 hF5 hF6 hF7 hF8 hF9 hF10 hF11 hF12 hF13 hF14 hF15 hF16 (yf_gg_M_parts0 hF0 hF1 hF2 hF3 hF4 hF5 hF6 hF7 hF8 hF9 hF10 hF11 hF12 hF13 hF14 hF15 hF16 _) | with_reducible exact yf_fb_M_parts0_19 (by assumption) hF0 hF1 hF2 hF3 hF4 hF5 hF6 hF7 hF8 hF9 hF10 hF11 hF12 hF13 hF14 hF15 hF16 (yf_gg_M_parts0 hF0 hF1 hF2 hF3 hF4 hF5 hF6 hF7 hF8 hF9 hF10 hF11 hF12 hF13 hF14 hF15 hF16 _) | with_reducible exact yf_fb_M_parts0_17 (by assumption) hF0 hF1 hF2 hF3 hF4 hF5 hF6 hF7 hF8 hF9 hF10 hF11 hF12 hF13 hF14 hF15 hF16 (yf_gg_M_parts0 hF0 hF1 hF2 hF3 hF4 hF5 hF6 hF7 hF8 hF9 hF10 hF11 hF12 hF13 hF14 hF15 hF16 _) | with_reducible exact yf_fb_M_parts0_0 (by assumption) hF0 hF1 hF2 hF3 hF4 hF5 hF6 hF7 hF8 hF9 hF10 hF11 hF12 hF13 hF14 hF15 hF16 (yf_gg_M_parts0 hF0 hF1 hF2 hF3 hF4 hF5 hF6 hF7 hF8 hF9 hF10 hF11 hF12 hF13 hF14 hF15 hF16 _) | with_reducible exact (yf_gg_M_parts0 hF0 hF1 hF2 hF3 hF4 hF5 hF6 hF7 hF8 hF9 hF10 hF11 hF12 hF13 hF14 hF15 hF16 _) _ _ _ _ _ _ (by assumption) | with_reducible refine Kf_ltv (fun _ => ?_) | with_reducible refine Kf_I ?_ (by decide) | with_reducible refine Kf_A ?_ | with_reducible refine Kf_J ?_ | with_reducible refine Kf_L ?_)
    · rw [decide_eq_false k19, br_fq, if_neg k19, bnd_s, show decide ((0 : Int32) = 0) = true from rfl, br_tq, bnd_s]
      have stt : STQ m0 w0 K T Nk false m w p n (e :: t) (0 + 1) m2 y q n2 sc2 (max X 0) (mrg p (fun _ => 32) W) false false (fun _ => False) := by
        have := STQ_cl (CM := fun _ => False) (fun x => ⟨fun z => z.elim id id, False.elim⟩) s1
        rw [Nat.zero_max, Bool.false_or] at this
        rw [Nat.max_zero]
        exact this
      exact part_tl (lp := [ν]) (lg := []) (q := q) (X1 := X) (X2 := 0) (mp := m2) (l1 := n) (np := n2) (mg := m2) (l2 := n2) (ng := n2) (sc2 := sc2) (sc1 := sc2) c hB hW stt hn0 ⟨by omega, Nat.le_refl _⟩ y70 ho y73 e1400 (PRW_w (fun j h1 h2 => mrg_r h1) hpr) ⟨fun j _ _ => ⟨rfl, rfl⟩, Kc_rf⟩ (Nat.le_refl _) (Nat.le_refl _) sw.2.2.2.1.2 ⟨rfl, rfl, rfl, rfl, rfl, fun _ => BCo_no⟩ ⟨fun j _ _ => ⟨rfl, rfl⟩, Kc_rf⟩ (by omega) (Nat.le_refl _) (fun _ => rfl) n6 h34 hC
  · have hz : Kfc u u := hz.1
    refine pk_mo (Q := fun w2 (_ : Int32) => FLW w2) ?_ (fun v r hv => hW _ _ v r hv)
    refine Kf_pk (u0 := u) ?_
    obtain ⟨hF0, hF1, hF2, hF3, hF4, hF5, hF6, hF7, hF8, hF9, hF10, hF11, hF12, hF13, hF14, hF15, hF16⟩ := yf_rc_M_behind (u0 := u) (N := N) d
    repeat' (first | with_reducible assumption | with_reducible refine Kf_br ?_ ?_ | with_reducible refine Kf_bnd ?_ (fun _ _ _ => ?_) | with_reducible refine Kf_ck ?_ | with_reducible refine Kf_ltm ?_ (fun _ _ => ?_) | with_reducible refine Kf_some ?_ | with_reducible refine Kf_bo (fun _ => ?_) | with_reducible exact yf_fm_M_node (by assumption) | with_reducible exact yf_fm_M_pattern (by assumption) | with_reducible exact yf_fm_M_wrong (by assumption) | with_reducible exact yf_fm_M_rule (by assumption) | with_reducible exact yf_fm_M_isSign (by assumption) | with_reducible exact yf_fm_M_isWord (by assumption) | with_reducible exact yf_fm_M_takeSign (by assumption) | with_reducible exact yf_fm_M_takeWord (by assumption) | with_reducible exact yf_fm_M_needSign (by assumption) | with_reducible exact yf_fm_M_needWord (by assumption) | with_reducible exact yf_fm_M_opens (by assumption) | with_reducible exact yf_fm_M_boundIn (by assumption) | with_reducible exact yf_fr_M_found (by assumption) | with_reducible exact yf_fm_M_bind (by assumption) | with_reducible exact yf_fm_M_isUnderscore (by assumption) | with_reducible exact yf_fm_M_unbind (by assumption) | with_reducible exact yf_fm_M_term (by assumption) | with_reducible exact yf_fm_M_namePattern (by assumption) | with_reducible exact yf_fr_M_patternAt (by assumption) | with_reducible exact yf_fm_M_beginsUnit (by assumption) | with_reducible exact yf_fm_M_save (by assumption) | with_reducible exact yf_fm_M_addRoot (by assumption) | with_reducible exact yf_fm_M_level (by assumption) | with_reducible exact yf_fm_M_reduce (by assumption) | with_reducible exact yf_fm_M_takeBack (by assumption) | with_reducible exact yf_fm_M_forgetSaved (by assumption) | with_reducible exact yf_fr_M_last (by assumption) | with_reducible exact yf_fr_M_clause (by assumption) | with_reducible exact yf_fm_M_predefinedOf (by assumption) | with_reducible exact yf_fm_M_function0 (by assumption) | with_reducible exact yf_fm_M_program (by assumption) | with_reducible exact hF0 _ (by assumption) | with_reducible exact hF1 _ _ (by assumption) | with_reducible exact hF2 _ _ _ (by assumption) | with_reducible exact hF3 _ _ _ (by assumption) | with_reducible exact hF4 _ (by assumption) | with_reducible exact hF5 _ _ (by assumption) | with_reducible exact hF6 _ _ (by assumption) | with_reducible exact hF7 _ _ (by assumption) | with_reducible exact hF8 _ _ (by assumption) | with_reducible exact hF9 _ (by assumption) | with_reducible exact hF10 _ (by assumption) | with_reducible exact hF11 _ (by assumption) | with_reducible exact hF12 _ (by assumption) | with_reducible exact hF13 _ (by assumption) | with_reducible exact hF14 _ (by assumption) | with_reducible exact hF15 _ (by assumption) | with_reducible exact hF16 _ _ (by assumption) | with_reducible exact yf_fb_M_parts0_214 (by assumption) hF0 hF1 hF2 hF3 hF4 hF5 hF6 hF7 hF8 hF9 hF10 hF11 hF12 hF13 hF14 hF15 hF16 (yf_gg_M_parts0 hF0 hF1 hF2 hF3 hF4 hF5 hF6 hF7 hF8 hF9 hF10 hF11 hF12 hF13 hF14 hF15 hF16 _) | with_reducible exact yf_fb_M_parts0_127 (by assumption) hF0 hF1 hF2 hF3 hF4 hF5 hF6 hF7 hF8 hF9 hF10 hF11 hF12 hF13 hF14 hF15 hF16 (yf_gg_M_parts0 hF0 hF1 hF2 hF3 hF4 hF5 hF6 hF7 hF8 hF9 hF10 hF11 hF12 hF13 hF14 hF15 hF16 _) | with_reducible exact yf_fb_M_parts0_105 (by assumption) hF0 hF1 hF2 hF3 hF4 hF5 hF6 hF7 hF8 hF9 hF10 hF11 hF12 hF13 hF14 hF15 hF16 (yf_gg_M_parts0 hF0 hF1 hF2 hF3 hF4 hF5 hF6 hF7 hF8 hF9 hF10 hF11 hF12 hF13 hF14 hF15 hF16 _) | with_reducible exact yf_fb_M_parts0_74 (by assumption) hF0 hF1 hF2 hF3 hF4 hF5 hF6 hF7 hF8 hF9 hF10 hF11 hF12 hF13 hF14 hF15 hF16 (yf_gg_M_parts0 hF0 hF1 hF2 hF3 hF4 hF5 hF6 hF7 hF8 hF9 hF10 hF11 hF12 hF13 hF14 hF15 hF16 _) | with_reducible exact yf_fb_M_parts0_19 (by assumption) hF0 hF1 hF2 hF3 hF4 hF5 hF6 hF7 hF8 hF9 hF10 hF11 hF12 hF13 hF14 hF15 hF16 (yf_gg_M_parts0 hF0 hF1 hF2 hF3 hF4 hF5 hF6 hF7 hF8 hF9 hF10 hF11 hF12 hF13 hF14 hF15 hF16 _) | with_reducible exact yf_fb_M_parts0_17 (by assumption) hF0 hF1 hF2 hF3 hF4 hF5 hF6 hF7 hF8 hF9 hF10 hF11 hF12 hF13 hF14 hF15 hF16 (yf_gg_M_parts0 hF0 hF1 hF2 hF3 hF4 hF5 hF6 hF7 hF8 hF9 hF10 hF11 hF12 hF13 hF14 hF15 hF16 _) | with_reducible exact yf_fb_M_parts0_0 (by assumption) hF0 hF1 hF2 hF3 hF4 hF5 hF6 hF7 hF8 hF9 hF10 hF11 hF12 hF13 hF14 hF15 hF16 (yf_gg_M_parts0 hF0 hF1 hF2 hF3 hF4 hF5 hF6 hF7 hF8 hF9 hF10 hF11 hF12 hF13 hF14 hF15 hF16 _) | with_reducible exact (yf_gg_M_parts0 hF0 hF1 hF2 hF3 hF4 hF5 hF6 hF7 hF8 hF9 hF10 hF11 hF12 hF13 hF14 hF15 hF16 _) _ _ _ _ _ _ (by assumption) | with_reducible refine Kf_ltv (fun _ => ?_) | with_reducible refine Kf_I ?_ (by decide) | with_reducible refine Kf_A ?_ | with_reducible refine Kf_J ?_ | with_reducible refine Kf_L ?_)
theorem cho_pp {F : MS → Int32 → Option (MS × (Int32 ⊕ Nat))} (c : CTZ m0 w0 K T nm Nk) (hB : HBo N m0 w0 K T nm Nk d) (hG : HGc N m0 w0 K T nm Nk d) (hW : ∀ m k w r, FLW w → R m (.inr k) w r) (h : RLP m0 w0 T p m w) (hn : m.1 306 = I (n : Nat)) (hn0 : n ≤ 2 * p) (hR : RNs w (e :: t)) (nd : ND w) (h70 : w.1 70 = I (o : Nat)) (ho : o ≤ 25) (h73 : w.1 73 = 0)
    (h34 : v4 = -1 ∨ v3 ≠ -1)
    (hC : ∀ m3 ρ w3 a b, a ≠ -1 → PAR N m0 w0 K T nm Nk p n e t m w m3 ρ w3 → PP R (F m3 ρ) (fb_M_parts0_214 N (rc_M_behind N d) (gg_M_parts0 N (rc_M_behind N d) M) w3 1 v2 a b)) :
    PP R (bTm ((hrc_Pa_matched N D).2.2.2.2.1 m) F) (fb_M_parts0_19 N (rc_M_behind N d) (gg_M_parts0 N (rc_M_behind N d) M) w 1 v2 v3 v4 1) := by
  have T4 := c.1.1.1
  have e1400 := e1400_p hR
  cases D with
  | zero => exact pp_nl
  | succ D =>
  refine par_hd (F := fun _ => none) hR (fun x v6 n6 sx x69 => ?_)
  rw [if_neg (by decide)]
  show PP R (bTm (bTm ((hrc_Pa_matched N D).2.2.2.2.2.2.2.2.2.2.2.2.2.2.2.2.2.2.1 m 0 4000) (fun u2 r2 => hb_Pa_part_30 N (hrc_Pa_matched N D) () u2 (m.1 665) 0 r2)) F) _
  rw [bTm_as, h.2.2.1]
  have s0 := STQ_s (STQ_0 (K := K) (Nk := Nk) (gd := false) (W := fun _ => 32) h hn hR nd) sx x69
  have x70 : x.1 70 = I (o : Nat) := by rw [sx.1 70 (by decide)]; exact h70
  have x73 : x.1 73 = 0 := by rw [sx.1 73 (by decide)]; exact h73
  unfold fb_M_parts0_105
  refine r_ck (fun _ => r_ck (fun _ => r_lt ?_))
  rw [show decide ((1 : Int32) = 0) = false from rfl, br_fq]
  have sm1 : SMS x (upA x 40 (upd (x.2.2.1 40) v6.toNatClampNeg (-1))) := SMS_A SMS_rf (by unfold SMX; omega) (by omega)
  have s1 := STQ_s s0 sm1 rfl
  generalize hy : upA x 40 (upd (x.2.2.1 40) v6.toNatClampNeg (-1)) = y at s1 ⊢
  have y70 : y.1 70 = I (o : Nat) := by rw [← hy]; exact x70
  have y73 : y.1 73 = 0 := by rw [← hy]; exact x73
  clear hy sm1
  refine pp_bTn (hG D m y p n (e :: t) o s1.1 hn hn0 (STQ_rn s1) (STQ_nd s1) y70 ho y73) (fun m3 φ u3 r3 hz => ?_) (fun m3 k3 u3 r3 hz => ?_)
  · obtain ⟨lg, q3, n3, sg, s3c, Xg, Wg, Rg, Zg, CLg, d1, d2, d3, stg, d5, d6, d7, d8⟩ := hz
    rw [d1]
    have nb3 := stg.2.1
    have f7 := stg.2.2.2.2.1.2.2.2.2.2.2.1
    have stt : STQ m0 w0 K T Nk false m w p n (e :: t) (0 + 1) m3 u3 q3 n3 s3c (max 0 Xg) (mrg p (fun _ => 32) Wg) Rg Zg CLg := by
      have := STQ_cl (CM := CLg) (fun x => ⟨fun z => z.elim False.elim id, Or.inr⟩) (STQ_tr s1 stg)
      rw [Bool.false_or, Bool.false_or] at this
      exact this
    refine part_tl (lp := []) (lg := lg) (q := p) (X1 := 0) (X2 := Xg) (mp := m) (l1 := n) (np := n) (mg := m3) (l2 := n) (ng := n3) (sc2 := sg) (sc1 := e :: t) c hB hW stt hn0 ⟨Nat.le_refl _, by omega⟩ ?_ ho ?_ e1400 ⟨rfl, rfl, rfl⟩ ⟨fun j h1 h2 => absurd h2 (by omega), PCG_k stg.2.2.2.1⟩ (Nat.le_refl _) (by omega) (by decide) (ERW_w (fun j h1 _ => mrg_r h1) d5) ⟨fun j _ _ => ⟨rfl, rfl⟩, Kc_rf⟩ (Nat.le_refl _) (Nat.le_refl _) d6 n6 h34 hC
    · rw [f7.1 70 (by decide)]; exact y70
    · rw [f7.1 73 (by decide)]; exact y73
  · have hz : Kfc u3 u3 := hz
    refine pk_mo (Q := fun w2 (_ : Int32) => FLW w2) ?_ (fun v r hv => hW _ _ v r hv)
    refine Kf_pk (u0 := u3) ?_
    obtain ⟨hF0, hF1, hF2, hF3, hF4, hF5, hF6, hF7, hF8, hF9, hF10, hF11, hF12, hF13, hF14, hF15, hF16⟩ := yf_rc_M_behind (u0 := u3) (N := N) d
    repeat' (first | with_reducible assumption | with_reducible refine Kf_br ?_ ?_ | with_reducible refine Kf_bnd ?_ (fun _ _ _ => ?_) | with_reducible refine Kf_ck ?_ | with_reducible refine Kf_ltm ?_ (fun _ _ => ?_) | with_reducible refine Kf_some ?_ | with_reducible refine Kf_bo (fun _ => ?_) | with_reducible exact yf_fm_M_node (by assumption) | with_reducible exact yf_fm_M_pattern (by assumption) | with_reducible exact yf_fm_M_wrong (by assumption) | with_reducible exact yf_fm_M_rule (by assumption) | with_reducible exact yf_fm_M_isSign (by assumption) | with_reducible exact yf_fm_M_isWord (by assumption) | with_reducible exact yf_fm_M_takeSign (by assumption) | with_reducible exact yf_fm_M_takeWord (by assumption) | with_reducible exact yf_fm_M_needSign (by assumption) | with_reducible exact yf_fm_M_needWord (by assumption) | with_reducible exact yf_fm_M_opens (by assumption) | with_reducible exact yf_fm_M_boundIn (by assumption) | with_reducible exact yf_fr_M_found (by assumption) | with_reducible exact yf_fm_M_bind (by assumption) | with_reducible exact yf_fm_M_isUnderscore (by assumption) | with_reducible exact yf_fm_M_unbind (by assumption) | with_reducible exact yf_fm_M_term (by assumption) | with_reducible exact yf_fm_M_namePattern (by assumption) | with_reducible exact yf_fr_M_patternAt (by assumption) | with_reducible exact yf_fm_M_beginsUnit (by assumption) | with_reducible exact yf_fm_M_save (by assumption) | with_reducible exact yf_fm_M_addRoot (by assumption) | with_reducible exact yf_fm_M_level (by assumption) | with_reducible exact yf_fm_M_reduce (by assumption) | with_reducible exact yf_fm_M_takeBack (by assumption) | with_reducible exact yf_fm_M_forgetSaved (by assumption) | with_reducible exact yf_fr_M_last (by assumption) | with_reducible exact yf_fr_M_clause (by assumption) | with_reducible exact yf_fm_M_predefinedOf (by assumption) | with_reducible exact yf_fm_M_function0 (by assumption) | with_reducible exact yf_fm_M_program (by assumption) | with_reducible exact hF0 _ (by assumption) | with_reducible exact hF1 _ _ (by assumption) | with_reducible exact hF2 _ _ _ (by assumption) | with_reducible exact hF3 _ _ _ (by assumption) | with_reducible exact hF4 _ (by assumption) | with_reducible exact hF5 _ _ (by assumption) | with_reducible exact hF6 _ _ (by assumption) | with_reducible exact hF7 _ _ (by assumption) | with_reducible exact hF8 _ _ (by assumption) | with_reducible exact hF9 _ (by assumption) | with_reducible exact hF10 _ (by assumption) | with_reducible exact hF11 _ (by assumption) | with_reducible exact hF12 _ (by assumption) | with_reducible exact hF13 _ (by assumption) | with_reducible exact hF14 _ (by assumption) | with_reducible exact hF15 _ (by assumption) | with_reducible exact hF16 _ _ (by assumption) | with_reducible exact yf_fb_M_parts0_214 (by assumption) hF0 hF1 hF2 hF3 hF4 hF5 hF6 hF7 hF8 hF9 hF10 hF11 hF12 hF13 hF14 hF15 hF16 (yf_gg_M_parts0 hF0 hF1 hF2 hF3 hF4 hF5 hF6 hF7 hF8 hF9 hF10 hF11 hF12 hF13 hF14 hF15 hF16 _) | with_reducible exact yf_fb_M_parts0_127 (by assumption) hF0 hF1 hF2 hF3 hF4 hF5 hF6 hF7 hF8 hF9 hF10 hF11 hF12 hF13 hF14 hF15 hF16 (yf_gg_M_parts0 hF0 hF1 hF2 hF3 hF4 hF5 hF6 hF7 hF8 hF9 hF10 hF11 hF12 hF13 hF14 hF15 hF16 _) | with_reducible exact yf_fb_M_parts0_105 (by assumption) hF0 hF1 hF2 hF3 hF4 hF5 hF6 hF7 hF8 hF9 hF10 hF11 hF12 hF13 hF14 hF15 hF16 (yf_gg_M_parts0 hF0 hF1 hF2 hF3 hF4 hF5 hF6 hF7 hF8 hF9 hF10 hF11 hF12 hF13 hF14 hF15 hF16 _) | with_reducible exact yf_fb_M_parts0_74 (by assumption) hF0 hF1 hF2 hF3 hF4 hF5 hF6 hF7 hF8 hF9 hF10 hF11 hF12 hF13 hF14 hF15 hF16 (yf_gg_M_parts0 hF0 hF1 hF2 hF3 hF4 hF5 hF6 hF7 hF8 hF9 hF10 hF11 hF12 hF13 hF14 hF15 hF16 _) | with_reducible exact yf_fb_M_parts0_19 (by assumption) hF0 hF1 hF2 hF3 hF4 hF5 hF6 hF7 hF8 hF9 hF10 hF11 hF12 hF13 hF14 hF15 hF16 (yf_gg_M_parts0 hF0 hF1 hF2 hF3 hF4 hF5 hF6 hF7 hF8 hF9 hF10 hF11 hF12 hF13 hF14 hF15 hF16 _) | with_reducible exact yf_fb_M_parts0_17 (by assumption) hF0 hF1 hF2 hF3 hF4 hF5 hF6 hF7 hF8 hF9 hF10 hF11 hF12 hF13 hF14 hF15 hF16 (yf_gg_M_parts0 hF0 hF1 hF2 hF3 hF4 hF5 hF6 hF7 hF8 hF9 hF10 hF11 hF12 hF13 hF14 hF15 hF16 _) | with_reducible exact yf_fb_M_parts0_0 (by assumption) hF0 hF1 hF2 hF3 hF4 hF5 hF6 hF7 hF8 hF9 hF10 hF11 hF12 hF13 hF14 hF15 hF16 (yf_gg_M_parts0 hF0 hF1 hF2 hF3 hF4 hF5 hF6 hF7 hF8 hF9 hF10 hF11 hF12 hF13 hF14 hF15 hF16 _) | with_reducible exact (yf_gg_M_parts0 hF0 hF1 hF2 hF3 hF4 hF5 hF6 hF7 hF8 hF9 hF10 hF11 hF12 hF13 hF14 hF15 hF16 _) _ _ _ _ _ _ (by assumption) | with_reducible refine Kf_ltv (fun _ => ?_) | with_reducible refine Kf_I ?_ (by decide) | with_reducible refine Kf_A ?_ | with_reducible refine Kf_J ?_ | with_reducible refine Kf_L ?_)
end
end
section
set_option maxRecDepth 100000
def PSZ (N : Nat) (m0 w0 : MS) (K : Nat → Nat) (T : Nat) (nm Nk : Nat → Nat) (p n : Nat) (e : List Nat × List Nat × Nat) (t : SCT) (m w m2 : MS) (z : Int32 ⊕ Nat) (w2 : MS) (rr : Int32) : Prop := match z with
  | .inr _ => FLW w2
  | .inl φ => rr ≠ -1 ∧ ∃ (l : List Nat) (p2 n2 : Nat) (sc2 : SCT) (X : Nat) (W : Nat → Nat) (Rf Zf : Bool) (CL : Int32 × Int32 × Int32 → Prop), φ = I ((l.headD 0 : Nat) : Int) ∧ l ≠ [] ∧ p < p2 ∧ STQ m0 w0 K T Nk false m w p n (e :: t) 1 m2 w2 p2 n2 sc2 X W Rf Zf CL ∧ PLW N K nm m2 n n2 W e.1.length l p p2 (e :: t) sc2 X Rf Zf (BCo N CL) ∧ nms sc2 = nms (e :: t) ∧ n < l.headD 0
def PLZ (N : Nat) (m0 w0 : MS) (K : Nat → Nat) (T : Nat) (nm Nk : Nat → Nat) (mB wB : MS) (p0 n0 : Nat) (e : List Nat × List Nat × Nat) (t : SCT) (p n π : Nat) (sc : SCT) (X : Nat) (W : Nat → Nat) (Rf Zf : Bool) (CL : Int32 × Int32 × Int32 → Prop) (φ : Int32) (m m2 : MS) (z : Int32 ⊕ Nat) (w2 : MS) (rr : Int32) : Prop := match z with
  | .inr _ => FLW w2
  | .inl φ' => (φ' = φ ∧ rr ≠ -1) ∧ ∃ (l : List Nat) (p2 n2 : Nat) (sc2 : SCT) (X' : Nat) (W' : Nat → Nat) (R' Z' : Bool) (CL' : Int32 × Int32 × Int32 → Prop), STQ m0 w0 K T Nk false mB wB p0 n0 (e :: t) 1 m2 w2 p2 n2 sc2 (max X X') (mrg p W W') (Rf || R') (Zf || Z') (fun x => CL x ∨ CL' x) ∧ PLW N K nm m2 n n2 W' e.1.length l p p2 sc sc2 X' R' Z' (BCo N CL') ∧ m2.2.2.1 21 π = I ((l.headD 0 : Nat) : Int) ∧ (∀ j, j ≤ n → nod m2 j = nod m j ∧ (j ≠ π → m2.2.2.1 21 j = m.2.2.1 21 j)) ∧ Kcc m m2 ∧ nms sc2 = nms (e :: t) ∧ p ≤ p2 ∧ n ≤ n2
section
variable {α : Type} {R : MS → Int32 ⊕ Nat → MS → Int32 → Prop} {A : Option (MS × α)} {m0 w0 m w v u m2 m3 w2 x y z mF mB wB mp mg : MS} {K nm Nk W W1 W2 WA WB : Nat → Nat} {T p n N q q1 X Y X1 X2 XA n0 n1 n2 n3 lo lo2 l1 l2 np ng p0 p2 p4 ν μ π a b L L' k d o M D s : Nat} {sc sc1 sc2 sc3 sc4 sc5 t t2 t3 t4 t5 : SCT} {e e2 e3 e4 e5 : List Nat × List Nat × Nat} {gd Rf Rg Zf R1 Z1 own : Bool} {BC : MS → Prop} {v1 v2 v3 v4 v5 v6 v1c r ξ φ : Int32} {S : SG_M_behind} {NC : Nat → Prop} {CL CM CL1 : Int32 × Int32 × Int32 → Prop} {l lp lg : List Nat}
theorem PLW_w : ∀ {l : List Nat} {p p2 : Nat} {sc sc2 : SCT} {X : Nat} {Rf Zf : Bool} {BC : MS → Prop}, (∀ j, p ≤ j → j < p2 → W2 j = W j) → PLW N K nm m2 lo n2 W b l p p2 sc sc2 X Rf Zf BC → PLW N K nm m2 lo n2 W2 b l p p2 sc sc2 X Rf Zf BC
  | [], _, _, _, _, _, _, _, _, _, h => h
  | π :: l, p, p2, sc, sc2, X, Rf, Zf, BC, hw, ⟨q, q1, q2, sc1, e3, t3, X1, X2, X3, R1, R2, R3, Z1, Z2, Z3, B1, B2, B3, h1, g1, ⟨mi, li, ni, hT, hB, h2b⟩, h3, h4, h5, hb, h6, h7⟩ => by
    have := (PLW_len h6).1
    exact ⟨q, q1, q2, sc1, e3, t3, X1, X2, X3, R1, R2, R3, Z1, Z2, Z3, B1, B2, B3, h1, g1, ⟨mi, li, ni, TRB_w (fun j a b => hw j (by omega) (by omega)) hT, BDB_w (fun j a b => hw j (by omega) (by omega)) hB, h2b⟩, h3, h4, h5, hb, PLW_w (fun j a b => hw j (by omega) b) h6, h7⟩
theorem PLW_lo (hl : lo2 ≤ lo) : ∀ {l : List Nat} {p p2 : Nat} {sc sc2 : SCT} {X : Nat} {Rf Zf : Bool} {BC : MS → Prop}, PLW N K nm m2 lo n2 W b l p p2 sc sc2 X Rf Zf BC → PLW N K nm m2 lo2 n2 W b l p p2 sc sc2 X Rf Zf BC
  | [], _, _, _, _, _, _, _, _, h => h
  | π :: l, p, p2, sc, sc2, X, Rf, Zf, BC, ⟨q, q1, q2, sc1, e3, t3, X1, X2, X3, R1, R2, R3, Z1, Z2, Z3, B1, B2, B3, h1, g1, ⟨mi, li, ni, hT, hB, hx, ha, hb2⟩, h3, h4, h5, hb, h6, h7⟩ => ⟨q, q1, q2, sc1, e3, t3, X1, X2, X3, R1, R2, R3, Z1, Z2, Z3, B1, B2, B3, h1, g1, ⟨mi, li, ni, hT, hB, hx, ⟨by omega, ha.2⟩, hb2⟩, h3, h4, h5, hb, PLW_lo hl h6, h7⟩
theorem nms_hd (h : nms (e :: t) = nms (e2 :: t2)) : e.1 = e2.1 := by
  have h : e.1 :: nms t = e2.1 :: nms t2 := h
  exact (List.cons.inj h).1
theorem mrg_3 (h : p + 1 ≤ q) : mrg q (mrg (p + 1) W W1) W2 = mrg p W (mrg (p + 1) W (mrg q W1 W2)) := by
  funext j
  unfold mrg
  by_cases a : j < p
  · rw [if_pos (by omega), if_pos (by omega), if_pos a]
  · by_cases b : j < p + 1
    · rw [if_pos (by omega), if_pos b, if_neg a, if_pos b]
    · rw [if_neg a, if_neg b, if_neg b]
theorem BCo_o3 {C1 C2 C3 : Int32 × Int32 × Int32 → Prop} : BCo N (fun x => (C1 x ∨ C2 x) ∨ C3 x) m ↔ BCo N C1 m ∨ BCo N C2 m ∨ BCo N C3 m := by
  rw [BCo_or, BCo_or, or_assoc]
theorem prs_lp {fP : MS → Option (MS × (Int32 ⊕ Nat))} (c : CTZ m0 w0 K T nm Nk) (c45 : ∀ p, p ≤ T → K p ≠ 45) (hn0 : n0 ≤ 2 * p0)
    (hO : ∀ (R : MS → Int32 ⊕ Nat → MS → Int32 → Prop) (F : MS → Int32 → Option (MS × (Int32 ⊕ Nat))) (M : Nat) (m w : MS) (p n : Nat) (e : List Nat × List Nat × Nat) (t : SCT) (v3 v4 : Int32), (∀ m k w r, FLW w → R m (.inr k) w r) → RLP m0 w0 T p m w → m.1 306 = I (n : Nat) → n ≤ 2 * p → RNs w (e :: t) → ND w → w.1 70 = I (o : Nat) → w.1 73 = 0 → (v4 = -1 ∨ v3 ≠ -1) → (∀ m3 ρ w3 a b, a ≠ -1 → PAR N m0 w0 K T nm Nk p n e t m w m3 ρ w3 → PP R (F m3 ρ) (fb_M_parts0_214 N (rc_M_behind N d) (gg_M_parts0 N (rc_M_behind N d) M) w3 v1 v2 a b)) → PP R (bTm (fP m) F) (fb_M_parts0_19 N (rc_M_behind N d) (gg_M_parts0 N (rc_M_behind N d) M) w v1 v2 v3 v4 1))
    (hbr : ∀ (w4 : MS) (Kf : MS → Int32 → Option (MS × (Int32 ⊕ Nat))), br (decide (v1c = 0)) (bTm ((hrc_Pa_matched N D).2.2.2.2.1 w4) Kf) (bTm ((hrc_Pa_matched N D).2.2.2.2.2.2.1 w4) Kf) = bTm (fP w4) Kf)
    (h70 : wB.1 70 = I (o : Nat)) (h73 : wB.1 73 = 0) : ∀ (M' M : Nat) (m w : MS) (p n π k : Nat) (sc : SCT) (X : Nat) (W : Nat → Nat) (Rf Zf : Bool) (CL : Int32 × Int32 × Int32 → Prop) (a b : Int32), k + 1 ≤ p → (n0 < π ∧ π ≤ n) → nms sc = nms (e :: t) → STQ m0 w0 K T Nk false mB wB p0 n0 (e :: t) 1 m w p n sc X W Rf Zf CL → m.2.2.1 21 π = 0 → a ≠ -1 → PP (PLZ N m0 w0 K T nm Nk mB wB p0 n0 e t p n π sc X W Rf Zf CL φ m) (hg_Pa_parts N (hrc_Pa_matched N D) M' m v1c φ (I (π : Nat)) (I (k : Nat))) (fb_M_parts0_214 N (rc_M_behind N d) (gg_M_parts0 N (rc_M_behind N d) M) w v1 v2 a b)
  | 0, _, _, _, _, _, _, _, _, _, _, _, _, _, _, _, _, _, _, _, _, _ => pp_nl
  | M' + 1, M, m, w, p, n, π, k, sc, X, W, Rf, Zf, CL, a, b, hk, hπ, hnm, st, h21, ha1 => by
    have T4 := c.1.1.1
    have hc := RLP_c c st.1
    have hw := RLP_w c st.1
    have h0 := st.1.2.2.2.2.2.2
    have pT := st.1.2.2.2.2.1
    have k46 := hc.1.1.k46 hc.2.2
    have nb := st.2.1
    show PP _ (hb_Pa_parts_21 N (hrc_Pa_matched N D) (hg_Pa_parts N (hrc_Pa_matched N D) M') m v1c φ (I (π : Nat)) (I (k : Nat))) _
    unfold hb_Pa_parts_21 fb_M_parts0_214
    rw [show (4000 : Int32) = I ((4000 : Nat) : Int) from rfl, decI (by omega) (by omega) (by omega) (by omega), decide_eq_false (by omega), br_fq, look_e hc (c45 _ pT), bTm_l, I_dn (a := K p) (b := 27) (s := 27) (by omega) (by decide) rfl, tkS_e (k := 27) (s := 7) hw h0 (by decide) rfl]
    cases M with
    | zero => rw [bnd_s]; exact pp_nr
    | succ M =>
    by_cases k27 : K p = 27
    · have pl : p < T := TWK_lt c pT (by omega) (by omega)
      rw [decide_eq_true k27, br_tq, if_pos k27, bnd_s, hc.2.1, i_suc]
      refine l_lt ?_
      rw [hbr]
      show PP _ _ (fb_M_parts0_19 N (rc_M_behind N d) (gg_M_parts0 N (rc_M_behind N d) M) (adv w p) v1 v2 a b 1)
      have s1 := STQ_ad st pl (by omega)
      have f7 := s1.2.2.2.2.1.2.2.2.2.2.2.1
      cases sc with
      | nil => cases hnm
      | cons e' t' =>
      have hb := nms_hd hnm
      refine hO _ _ M (advc m p) (adv w p) (p + 1) n e' t' a b (fun _ _ _ _ z => z) s1.1 s1.2.1.2.1 (by omega) (STQ_rn s1) (STQ_nd s1) (by rw [f7.1 70 (by decide)]; exact h70) (by rw [f7.1 73 (by decide)]; exact h73) (Or.inr ha1) (fun m3 ρ w3 a' b' ha' pz => ?_)
      obtain ⟨π2, p3, n3, q1, sc1, e3, t3, X1, X2, Wp, R1, R2, Z1, Z2, CL1, CL2, d1, d2, d3, stp, dT, dB, d21, d5, d6, d7⟩ := pz
      have nbp := stp.2.1
      have pT3 := stp.1.2.2.2.2.1
      unfold hb_Pa_parts_65 hm_Pa_chain hb_Pa_chain_0
      rw [d1, tnI (n := π) rfl (by omega)]
      rw [bnd_ck]
      refine l_ck (fun _ => ?_)
      show PP _ (bnd (some (upA m3 21 (upd (m3.2.2.1 21) π (I (π2 : Nat))), I (π2 : Nat))) _) _
      rw [bnd_s, i_suc]
      have stt := STQ_21 (L := π) (y := I (π2 : Nat)) (STQ_s2 (STQ_tr s1 stp) (by omega : 1 ≤ _)) hπ.1
      generalize hm4 : upA m3 21 (upd (m3.2.2.1 21) π (I (π2 : Nat))) = m4 at stt ⊢
      have nd4 : ∀ j, nod m4 j = nod m3 j := fun j => by rw [← hm4]; rfl
      have r21 : m4.2.2.1 21 = upd (m3.2.2.1 21) π (I (π2 : Nat)) := by rw [← hm4, upA_at]
      have kc4 : Kcc m3 m4 := by
        rw [← hm4]
        exact ⟨fun _ _ => rfl, fun k hk => upA_no (by omega)⟩
      clear hm4
      refine pp_mo (prs_lp c c45 hn0 hO hbr h70 h73 M' M m4 w3 p3 n3 π2 (k + 1) (cutS e'.1.length (e3 :: t3)) (max X (max X1 X2)) (mrg (p + 1) W Wp) (Rf || (R1 || R2)) (Zf || (Z1 || Z2)) (fun x => CL x ∨ (CL1 x ∨ CL2 x)) a' b' (by omega) ⟨by omega, d2.2⟩ (d7.trans hnm) ?_ (by rw [r21, upd_no (by omega)]; exact d21) ha') (fun m2 z w2 r hz => ?_)
      · exact stt
      · cases z with
        | inr kk => exact hz
        | inl φ' =>
        obtain ⟨y1, l, p4, n4, sc4, X', W', R', Z', CL', y2, y3, y4, y5, y6, y7, y8, y9⟩ := hz
        have ln4 := (PLW_len y3).1
        refine ⟨y1, π2 :: l, p4, n4, sc4, max X1 (max X2 X'), mrg (p + 1) W (mrg p3 Wp W'), R1 || (R2 || R'), Z1 || (Z2 || Z'), fun x => (CL1 x ∨ CL2 x) ∨ CL' x, ?_, ?_, ?_, fun j hj => ?_, ?_, y7, by omega, by omega⟩
        · rw [← mrg_3 (by omega), show max X (max X1 (max X2 X')) = max (max X (max X1 X2)) X' by omega, show (Rf || (R1 || (R2 || R'))) = ((Rf || (R1 || R2)) || R') by rw [Bool.or_assoc, Bool.or_assoc], show (Zf || (Z1 || (Z2 || Z'))) = ((Zf || (Z1 || Z2)) || Z') by rw [Bool.or_assoc, Bool.or_assoc]]
          exact STQ_cl (fun x => or_assoc) y2
        · refine ⟨p + 1, q1, p3, sc1, e3, t3, X1, X2, X', R1, R2, R', Z1, Z2, Z', BCo N CL1, BCo N CL2, BCo N CL', ⟨by omega, by omega, by omega, by omega⟩, fun j j1 j2 => by rw [show j = p by omega]; omega, ⟨m3, n, n3, TRB_w (fun j j1 j2 => by rw [mrg_r (by omega), mrg_l (by omega)]) dT, BDB_w (fun j j1 j2 => by rw [mrg_r (by omega), mrg_l (by omega)]) dB, ⟨fun j j1 j2 => ⟨(y5 j j2).1.trans (nd4 j), fun j3 => ((y5 j j2).2 j3).trans (by rw [r21, upd_no (by omega)])⟩, Kc_tr kc4 y6⟩, ⟨Nat.le_refl _, by omega⟩, d2⟩, ⟨by omega, by omega⟩, y4, d5, by rw [← hb]; exact d6, ?_, rfl, rfl, rfl, fun m => BCo_o3, BCo_st, BCo_st⟩
          rw [← hb]
          exact PLW_lo (lo := n3) (by omega) (PLW_w (fun j j1 j2 => by rw [mrg_r (by omega), mrg_r j1]) (by rw [hb]; rw [hb] at y3; exact y3))
        · show m2.2.2.1 21 π = I (π2 : Nat)
          rw [(y5 π (by omega)).2 (by omega), r21, upd_at]
        · refine ⟨((y5 j (by omega)).1.trans (nd4 j)).trans (stp.2.2.1 j hj).1, fun j3 => ?_⟩
          rw [(y5 j (by omega)).2 (by omega), r21, upd_no j3]
          exact (stp.2.2.1 j hj).2
        · exact Kc_tr (Kc_tr (PCG_k (PCG_I (m := m) PCG_rf (Or.inr (Or.inr rfl)) : PCG m (advc m p))) (PCG_k stp.2.2.2.1)) (Kc_tr kc4 y6)
    · rw [decide_eq_false k27, br_fq, if_neg k27, bnd_s]
      show PP _ _ (fb_M_parts0_19 N (rc_M_behind N d) (gg_M_parts0 N (rc_M_behind N d) M) w v1 v2 a b 0)
      unfold hb_Pa_parts_75 fb_M_parts0_19
      rw [show decide ((0 : Int32) = 0) = true from rfl, br_tq]
      refine pp_end ⟨⟨rfl, ha1⟩, [], p, n, sc, 0, W, false, false, fun _ => False, ?_, ⟨rfl, rfl, rfl, rfl, rfl, fun _ => BCo_no⟩, h21, fun j _ => ⟨rfl, fun _ => rfl⟩, Kc_rf, hnm, Nat.le_refl _, Nat.le_refl _⟩
      have e1 : mrg p W W = W := by funext j; unfold mrg; split <;> rfl
      rw [e1, Nat.max_zero, Bool.or_false, Bool.or_false]
      exact STQ_cl (fun x => ⟨Or.inl, fun z => z.elim id False.elim⟩) st
end
end
section
set_option maxRecDepth 100000
def HPa (N : Nat) (m0 w0 : MS) (K : Nat → Nat) (T : Nat) (nm Nk : Nat → Nat) (cs : Bool) (d : Nat) : Prop := ∀ (D : Nat) (m w : MS) (p n : Nat) (e : List Nat × List Nat × Nat) (t : SCT) (o : Nat) (v2 : Int32), RLP m0 w0 T p m w → m.1 306 = I (n : Nat) → n ≤ 2 * p → RNs w (e :: t) → ND w → w.1 70 = I (o : Nat) → o ≤ 25 → w.1 73 = 0 → PP (PSZ N m0 w0 K T nm Nk p n e t m w) ((hrc_Pa_matched N D).2.2.2.2.2.2.2.1 m (if cs then 1 else 0)) ((rc_M_behind N d).2.2.1 w (if cs then 0 else 1) v2)
section
variable {α : Type} {R : MS → Int32 ⊕ Nat → MS → Int32 → Prop} {A : Option (MS × α)} {m0 w0 m w v u m2 m3 w2 x y z mF mB wB mp mg : MS} {K nm Nk W W1 W2 WA WB : Nat → Nat} {T p n N q q1 X Y X1 X2 XA n0 n1 n2 n3 lo lo2 l1 l2 np ng p0 p2 p4 ν μ π a b L L' k d o M D s kd : Nat} {sc sc1 sc2 sc3 sc4 sc5 t t2 t3 t4 t5 : SCT} {e e2 e3 e4 e5 : List Nat × List Nat × Nat} {gd Rf Rg Zf R1 Z1 own cs : Bool} {BC : MS → Prop} {v1 v2 v3 v4 v5 v6 v1c r ξ φ ca cb cc : Int32} {S : SG_M_behind} {NC : Nat → Prop} {CL CM CL1 : Int32 × Int32 × Int32 → Prop} {l lp lg : List Nat}
theorem parts_pp {fP : MS → Option (MS × (Int32 ⊕ Nat))} (c : CTZ m0 w0 K T nm Nk) (c45 : ∀ p, p ≤ T → K p ≠ 45)
    (hO : ∀ (R : MS → Int32 ⊕ Nat → MS → Int32 → Prop) (F : MS → Int32 → Option (MS × (Int32 ⊕ Nat))) (M : Nat) (m w : MS) (p n : Nat) (e : List Nat × List Nat × Nat) (t : SCT) (v3 v4 : Int32), (∀ m k w r, FLW w → R m (.inr k) w r) → RLP m0 w0 T p m w → m.1 306 = I (n : Nat) → n ≤ 2 * p → RNs w (e :: t) → ND w → w.1 70 = I (o : Nat) → w.1 73 = 0 → (v4 = -1 ∨ v3 ≠ -1) → (∀ m3 ρ w3 a b, a ≠ -1 → PAR N m0 w0 K T nm Nk p n e t m w m3 ρ w3 → PP R (F m3 ρ) (fb_M_parts0_214 N (rc_M_behind N d) (gg_M_parts0 N (rc_M_behind N d) M) w3 v1 v2 a b)) → PP R (bTm (fP m) F) (fb_M_parts0_19 N (rc_M_behind N d) (gg_M_parts0 N (rc_M_behind N d) M) w v1 v2 v3 v4 1))
    (hbr : ∀ (w4 : MS) (Kf : MS → Int32 → Option (MS × (Int32 ⊕ Nat))), br (decide (v1c = 0)) (bTm ((hrc_Pa_matched N D).2.2.2.2.1 w4) Kf) (bTm ((hrc_Pa_matched N D).2.2.2.2.2.2.1 w4) Kf) = bTm (fP w4) Kf)
    (h : RLP m0 w0 T p m w) (hn : m.1 306 = I (n : Nat)) (hn2 : n ≤ 2 * p) (hR : RNs w (e :: t)) (nd : ND w) (h70 : w.1 70 = I (o : Nat)) (h73 : w.1 73 = 0) : PP (PSZ N m0 w0 K T nm Nk p n e t m w) (hb_Pa_parts_0 N (hrc_Pa_matched N D) (hg_Pa_parts N (hrc_Pa_matched N D) N) m v1c) (fb_M_parts0_0 N (rc_M_behind N d) (gg_M_parts0 N (rc_M_behind N d) N) w v1 v2) := by
  unfold hb_Pa_parts_0 fb_M_parts0_0 fb_M_parts0_17
  rw [hbr, decide_eq_true h.2.2.2.2.2.2, br_tq]
  have go : ∀ M, PP (PSZ N m0 w0 K T nm Nk p n e t m w) (bTm (fP m) (fun u7 r7 => hb_Pa_parts_15 N (hrc_Pa_matched N D) (hg_Pa_parts N (hrc_Pa_matched N D) N) u7 v1c r7)) (gg_M_parts0 N (rc_M_behind N d) M w v1 v2 (-1) (-1) 1) := fun M => by
    cases M with
    | zero => exact pp_nr
    | succ M =>
    refine hO _ _ M m w p n e t (-1) (-1) (fun _ _ _ _ z => z) h hn hn2 hR nd h70 h73 (Or.inl rfl) (fun m3 ρ w3 a b ha pz => ?_)
    obtain ⟨π2, p3, n3, q1, sc1, e3, t3, X1, X2, Wp, R1, R2, Z1, Z2, CL1, CL2, d1, d2, d3, stp, dT, dB, d21, d5, d6, d7⟩ := pz
    unfold hb_Pa_parts_15
    rw [d1]
    refine pp_mo (prs_lp (φ := I (π2 : Nat)) c c45 hn2 hO hbr h70 h73 N M m3 w3 p3 n3 π2 0 _ _ _ _ _ _ a b (by omega) d2 d7 stp d21 ha) (fun m2 z w2 r hz => ?_)
    cases z with
    | inr kk => exact hz
    | inl φ' =>
    obtain ⟨y1, l, p4, n4, sc4, X', W', R', Z', CL', y2, y3, y4, y5, y6, y7, y8, y9⟩ := hz
    refine ⟨y1.2, π2 :: l, p4, n4, sc4, max X1 (max X2 X'), mrg p3 Wp W', R1 || (R2 || R'), Z1 || (Z2 || Z'), fun x => (CL1 x ∨ CL2 x) ∨ CL' x, y1.1, (fun z => by cases z), by omega, ?_, ?_, y7, d2.1⟩
    · rw [show max X1 (max X2 X') = max (max X1 X2) X' by omega, ← Bool.or_assoc, ← Bool.or_assoc]
      exact y2
    · exact ⟨p, q1, p3, sc1, e3, t3, X1, X2, X', R1, R2, R', Z1, Z2, Z', BCo N CL1, BCo N CL2, BCo N CL', ⟨by omega, by omega, by omega, by omega⟩, fun j j1 j2 => absurd j2 (by omega), ⟨m3, n, n3, TRB_w (fun j j1 j2 => mrg_l (by omega)) dT, BDB_w (fun j j1 j2 => mrg_l (by omega)) dB, ⟨fun j j1 j2 => y5 j j2, y6⟩, ⟨Nat.le_refl _, by omega⟩, d2⟩, ⟨by omega, by omega⟩, y4, d5, d6, PLW_lo (lo := n3) (by omega) (PLW_w (fun j j1 j2 => mrg_r j1) y3), rfl, rfl, rfl, fun m => BCo_o3, BCo_st, BCo_st⟩
  exact go N
theorem HPa_s (c : CTZ m0 w0 K T nm Nk) (c45 : ∀ p, p ≤ T → K p ≠ 45) (hB : HBo N m0 w0 K T nm Nk d) (hG : ∀ d', d' ≤ d → HGc N m0 w0 K T nm Nk d') : ∀ cs, HPa N m0 w0 K T nm Nk cs (d + 1) := by
  intro cs D m w p n e t o v2 h hn hn2 hR nd h70 ho h73
  cases D with
  | zero => exact pp_nl
  | succ D =>
    cases cs with
    | true =>
      show PP _ (hb_Pa_parts_0 N (hrc_Pa_matched N D) (hg_Pa_parts N (hrc_Pa_matched N D) N) m 1) (fb_M_parts0_0 N (rc_M_behind N d) (gg_M_parts0 N (rc_M_behind N d) N) w 0 v2)
      exact parts_pp (fP := (hrc_Pa_matched N D).2.2.2.2.2.2.1) c c45 (fun R F M m w p n e t v3 v4 hW y1 y2 y3 y4 y5 y6 y7 y8 hC => cas_pp c c45 hB hG hW y1 y2 y3 y4 y5 y6 ho y7 y8 hC) (fun w4 Kf => by rw [show decide ((1 : Int32) = 0) = false from rfl, br_fq]) h hn hn2 hR nd h70 h73
    | false =>
      show PP _ (hb_Pa_parts_0 N (hrc_Pa_matched N D) (hg_Pa_parts N (hrc_Pa_matched N D) N) m 0) (fb_M_parts0_0 N (rc_M_behind N d) (gg_M_parts0 N (rc_M_behind N d) N) w 1 v2)
      exact parts_pp (fP := (hrc_Pa_matched N D).2.2.2.2.1) c c45 (fun R F M m w p n e t v3 v4 hW y1 y2 y3 y4 y5 y6 y7 y8 hC => cho_pp c hB (hG d (Nat.le_refl _)) hW y1 y2 y3 y4 y5 y6 ho y7 y8 hC) (fun w4 Kf => by rw [show decide ((0 : Int32) = 0) = true from rfl, br_tq]) h hn hn2 hR nd h70 h73
theorem EXB_mk (st : STQ m0 w0 K T Nk false m w p n sc 2 m2 w2 p2 n2 sc2 X W Rf Zf CL) (hs : SMS w2 v) (h69 : v.1 69 = w2.1 69) (hn2 : n2 ≤ 8014) (hp : p < p2) (hp4 : p ≤ 4000) (hkd : kd < 23 ∧ 8 ≤ kd ∧ kd ≠ 17) (hb : bPK (K p) = false) (hex : ∀ gd, EXN N K nm gd (adN m2 n2 (I (kd : Nat)) (I (p : Nat)) ca cb cc) n (n2 + 1) (n2 + 1) p p2 sc sc2 X W (gd || Rf) Zf (BCo N CL)) : EXB N m0 w0 K T nm Nk p n sc o m w (adN m2 n2 (I (kd : Nat)) (I (p : Nat)) ca cb cc) (.inl (I ((n2 + 1 : Nat) : Int))) v r := by
  have nb := st.2.1
  have hnd : nod (adN m2 n2 (I (kd : Nat)) (I (p : Nat)) ca cb cc) (n2 + 1) = (I (kd : Nat), I (p : Nat), ca, cb, cc) := adN_nod.1
  exact ⟨p2, n2 + 1, n2 + 1, sc2, X, W, Rf, Zf, CL, rfl, ⟨by omega, Nat.le_refl _⟩, hp, STQ_add (STQ_s st hs h69), adN_nod.2, hex, PTX_no hnd (by omega) (Nat.le_refl _) (by omega) hkd.1 (by omega) hkd.2.2 hb, kd, by rw [adN_16, upd_at], hkd.1, by omega, p, hp4, by rw [adN_17, upd_at]⟩
theorem t186 (c : CTZ m0 w0 K T nm Nk) (hPa : HPa N m0 w0 K T nm Nk cs d) (st : STQ m0 w0 K T Nk false m w p n sc s m2 w2 q n2 (e2 :: t2) X W Rf Zf CL) (hn0 : n ≤ 2 * p) (hpq : p < q) {oo : Nat} (h70 : w2.1 70 = I (oo : Nat)) (ho : oo ≤ 25) (h73 : w2.1 73 = 0) {v5 c5 : Nat} (k5 : w2.2.2.1 23 v5 ≠ 12 ∧ w2.2.2.1 23 v5 ≠ 15) (h32 : w2.1 32 = I (c5 : Nat)) (hc5 : v5 < c5 ∧ c5 ≤ 100000) (hkd : kd < 23 ∧ 8 ≤ kd ∧ kd ≠ 17) (hb : bPK (K p) = false)
    (hE : ∀ (m3 : MS) (l : List Nat) (p3 n3 : Nat) (sc3 : SCT) (X3 : Nat) (W3 : Nat → Nat) (R3 Z3 : Bool) (CL3 : Int32 × Int32 × Int32 → Prop), KPO n2 m2 m3 → Kcc m2 m3 → PLW N K nm m3 n2 n3 W3 e2.1.length l q p3 (e2 :: t2) sc3 X3 R3 Z3 (BCo N CL3) → n3 ≤ 8014 → n2 ≤ n3 → q < p3 → p3 < 4000 → K p3 = 11 → ∀ gd, EXN N K nm gd (adN (advc m3 p3) n3 (I (kd : Nat)) (I (p : Nat)) ca (I ((l.headD 0 : Nat) : Int)) 0) n (n3 + 1) (n3 + 1) p (p3 + 1) sc sc3 (max X X3) (mrg q W W3) (gd || (Rf || R3)) (Zf || Z3) (BCo N (fun x => CL x ∨ CL3 x))) :
    PP (EXB N m0 w0 K T nm Nk p n sc o m w) (bTm ((hrc_Pa_matched N D).2.2.2.2.2.2.2.1 m2 (if cs then 1 else 0)) (fun u6 r6 => bTm (hm_Pa_need N u6 11) (fun u7 r7 => bnd (hm_Tr_add N u7 (I (kd : Nat)) (I (p : Nat)) ca r6 0) (fun u9 r9 => some (u9, .inl r9))))) (fb_M_block_186 N (rc_M_behind N d) () w2 (I (v5 : Nat)) (if cs then 0 else 1)) := by
  have T4 := c.1.1.1
  have nb := st.2.1
  unfold fb_M_block_186
  refine pp_bTn (hPa D m2 w2 q n2 e2 t2 oo _ st.1 st.2.1.2.1 (by omega) (STQ_rn st) (STQ_nd st) h70 ho h73) (fun m3 φ u1 r1 hz => ?_) (fun m3 kk u1 r1 hz => ?_)
  · obtain ⟨-, l, p3, n3, sc3, X3, W3, R3, Z3, CL3, d1, d2, d3, stp, d5, d6, d7⟩ := hz
    have stt := STQ_tr st stp
    have hc3 := RLP_c c stt.1
    have hw3 := RLP_w c stt.1
    have h03 := stt.1.2.2.2.2.2.2
    have pT := stt.1.2.2.2.2.1
    have nb3 := stp.2.1
    by_cases k11 : K p3 = 11
    · have pl : p3 < T := TWK_lt c pT (by omega) (by omega)
      rw [need_e (s := 11) hc3 k11 (by decide) rfl, bTm_l, ndW_1 (s := 6) hw3 h03 (by decide) rfl k11, bnd_s, d1]
      have s1 := STQ_ad stt pl (by omega)
      have ad := add_e (N := N) (a := I (kd : Nat)) (b := I (p : Nat)) (c := ca) (d := I ((l.headD 0 : Nat) : Int)) (f := 0) s1.2.1.2.1 (by omega)
      rw [ad, bnd_s]
      refine pp_l (pk_ck (fun _ => pk_ltq (pk_ck (fun _ => pk_ltq ?_))))
      rw [tnI (n := v5) rfl (by omega)]
      have k6 : u1.2.2.1 23 v5 = w2.2.2.1 23 v5 := STW_23 stp.2.2.2.2.1 h32 hc5.2 hc5.1
      have k7 : (adv u1 p3).2.2.1 23 v5 ≠ 12 ∧ (adv u1 p3).2.2.1 23 v5 ≠ 15 := by
        show u1.2.2.1 23 v5 ≠ 12 ∧ u1.2.2.1 23 v5 ≠ 15
        rw [k6]; exact k5
      have sm1 := SMS_B (k := 25) (x := r1) (SMS_rf (w := adv u1 p3)) (Or.inl rfl) k7
      generalize hx1 : upA (adv u1 p3) 25 (upd ((adv u1 p3).2.2.1 25) v5 r1) = x1 at sm1 ⊢
      have x69 : x1.1 69 = (adv u1 p3).1 69 := by rw [← hx1]; rfl
      have k8 : x1.2.2.1 23 v5 ≠ 12 ∧ x1.2.2.1 23 v5 ≠ 15 := by rw [← hx1, upA_no (by decide)]; exact k7
      clear hx1
      have sm2 := SMS_B (k := 26) (x := x1.1 32) sm1 (Or.inr (Or.inl rfl)) k8
      have y69 : (upA x1 26 (upd (x1.2.2.1 26) v5 (x1.1 32))).1 69 = (adv u1 p3).1 69 := x69
      generalize upA x1 26 (upd (x1.2.2.1 26) v5 (x1.1 32)) = x2 at sm2 y69 ⊢
      refine pk_bnd (pk_mo (node_s (kd := 30) (N := N) (by decide)) (fun u5 r5 h5 => pk_ck (fun _ => pk_ck (fun _ => pk_ltq (pk_some ?_)))))
      have sm3 := SMS_A (k := 28) (g := upd (u5.2.2.1 28) r5.toNatClampNeg (u5.2.2.1 28 v5)) (SMS_tr sm2 h5.1) (by unfold SMX; omega) (by omega)
      refine EXB_mk (STQ_s2 s1 (by omega)) sm3 (by show u5.1 69 = _; rw [h5.2.1]; exact y69) (by omega) (by omega) (by omega) hkd hb ?_
      exact hE m3 l p3 n3 sc3 X3 W3 R3 Z3 CL3 stp.2.2.1 (PCG_k stp.2.2.2.1) d5 (by omega) (by omega) (by omega) (by omega) k11
    · refine pp_rf (RFS_T (need_x (s := 11) hc3 k11 (by decide) rfl)) (fun mm => ?_)
      refine pk_bnd (pk_mo (ndW_0 (N := N) (s := 6) hw3 h03 (by decide) rfl k11) (fun v r2 z => ?_))
      have hz : Kfc v v := z
      refine Kf_pk (u0 := v) ?_
      obtain ⟨hF0, hF1, hF2, hF3, hF4, hF5, hF6, hF7, hF8, hF9, hF10, hF11, hF12, hF13, hF14, hF15, hF16⟩ := yf_rc_M_behind (u0 := v) (N := N) d
      repeat' (first | with_reducible assumption | with_reducible refine Kf_br ?_ ?_ | with_reducible refine Kf_bnd ?_ (fun _ _ _ => ?_) | with_reducible refine Kf_ck ?_ | with_reducible refine Kf_ltm ?_ (fun _ _ => ?_) | with_reducible refine Kf_some ?_ | with_reducible refine Kf_bo (fun _ => ?_) | with_reducible exact yf_fm_M_node (by assumption) | with_reducible exact yf_fm_M_pattern (by assumption) | with_reducible exact yf_fm_M_wrong (by assumption) | with_reducible exact yf_fm_M_rule (by assumption) | with_reducible exact yf_fm_M_isSign (by assumption) | with_reducible exact yf_fm_M_isWord (by assumption) | with_reducible exact yf_fm_M_takeSign (by assumption) | with_reducible exact yf_fm_M_takeWord (by assumption) | with_reducible exact yf_fm_M_needSign (by assumption) | with_reducible exact yf_fm_M_needWord (by assumption) | with_reducible exact yf_fm_M_opens (by assumption) | with_reducible exact yf_fm_M_boundIn (by assumption) | with_reducible exact yf_fr_M_found (by assumption) | with_reducible exact yf_fm_M_bind (by assumption) | with_reducible exact yf_fm_M_isUnderscore (by assumption) | with_reducible exact yf_fm_M_unbind (by assumption) | with_reducible exact yf_fm_M_term (by assumption) | with_reducible exact yf_fm_M_namePattern (by assumption) | with_reducible exact yf_fr_M_patternAt (by assumption) | with_reducible exact yf_fm_M_beginsUnit (by assumption) | with_reducible exact yf_fm_M_save (by assumption) | with_reducible exact yf_fm_M_addRoot (by assumption) | with_reducible exact yf_fm_M_level (by assumption) | with_reducible exact yf_fm_M_reduce (by assumption) | with_reducible exact yf_fm_M_takeBack (by assumption) | with_reducible exact yf_fm_M_forgetSaved (by assumption) | with_reducible exact yf_fr_M_last (by assumption) | with_reducible exact yf_fr_M_clause (by assumption) | with_reducible exact yf_fm_M_predefinedOf (by assumption) | with_reducible exact yf_fm_M_function0 (by assumption) | with_reducible exact yf_fm_M_program (by assumption) | with_reducible exact hF0 _ (by assumption) | with_reducible exact hF1 _ _ (by assumption) | with_reducible exact hF2 _ _ _ (by assumption) | with_reducible exact hF3 _ _ _ (by assumption) | with_reducible exact hF4 _ (by assumption) | with_reducible exact hF5 _ _ (by assumption) | with_reducible exact hF6 _ _ (by assumption) | with_reducible exact hF7 _ _ (by assumption) | with_reducible exact hF8 _ _ (by assumption) | with_reducible exact hF9 _ (by assumption) | with_reducible exact hF10 _ (by assumption) | with_reducible exact hF11 _ (by assumption) | with_reducible exact hF12 _ (by assumption) | with_reducible exact hF13 _ (by assumption) | with_reducible exact hF14 _ (by assumption) | with_reducible exact hF15 _ (by assumption) | with_reducible exact hF16 _ _ (by assumption) | with_reducible exact yf_fb_M_block_186 (by assumption) hF0 hF1 hF2 hF3 hF4 hF5 hF6 hF7 hF8 hF9 hF10 hF11 hF12 hF13 hF14 hF15 hF16 | with_reducible exact yf_fb_M_block_160 (by assumption) hF0 hF1 hF2 hF3 hF4 hF5 hF6 hF7 hF8 hF9 hF10 hF11 hF12 hF13 hF14 hF15 hF16 | with_reducible exact yf_fb_M_block_131 (by assumption) hF0 hF1 hF2 hF3 hF4 hF5 hF6 hF7 hF8 hF9 hF10 hF11 hF12 hF13 hF14 hF15 hF16 | with_reducible exact yf_fb_M_block_49 (by assumption) hF0 hF1 hF2 hF3 hF4 hF5 hF6 hF7 hF8 hF9 hF10 hF11 hF12 hF13 hF14 hF15 hF16 | with_reducible exact yf_fb_M_block_0 (by assumption) hF0 hF1 hF2 hF3 hF4 hF5 hF6 hF7 hF8 hF9 hF10 hF11 hF12 hF13 hF14 hF15 hF16 | with_reducible refine Kf_ltv (fun _ => ?_) | with_reducible refine Kf_I ?_ (by decide) | with_reducible refine Kf_A ?_ | with_reducible refine Kf_J ?_ | with_reducible refine Kf_L ?_)
  · have hz : Kfc u1 u1 := hz
    refine Kf_pk (u0 := u1) ?_
    obtain ⟨hF0, hF1, hF2, hF3, hF4, hF5, hF6, hF7, hF8, hF9, hF10, hF11, hF12, hF13, hF14, hF15, hF16⟩ := yf_rc_M_behind (u0 := u1) (N := N) d
    repeat' (first | with_reducible assumption | with_reducible refine Kf_br ?_ ?_ | with_reducible refine Kf_bnd ?_ (fun _ _ _ => ?_) | with_reducible refine Kf_ck ?_ | with_reducible refine Kf_ltm ?_ (fun _ _ => ?_) | with_reducible refine Kf_some ?_ | with_reducible refine Kf_bo (fun _ => ?_) | with_reducible exact yf_fm_M_node (by assumption) | with_reducible exact yf_fm_M_pattern (by assumption) | with_reducible exact yf_fm_M_wrong (by assumption) | with_reducible exact yf_fm_M_rule (by assumption) | with_reducible exact yf_fm_M_isSign (by assumption) | with_reducible exact yf_fm_M_isWord (by assumption) | with_reducible exact yf_fm_M_takeSign (by assumption) | with_reducible exact yf_fm_M_takeWord (by assumption) | with_reducible exact yf_fm_M_needSign (by assumption) | with_reducible exact yf_fm_M_needWord (by assumption) | with_reducible exact yf_fm_M_opens (by assumption) | with_reducible exact yf_fm_M_boundIn (by assumption) | with_reducible exact yf_fr_M_found (by assumption) | with_reducible exact yf_fm_M_bind (by assumption) | with_reducible exact yf_fm_M_isUnderscore (by assumption) | with_reducible exact yf_fm_M_unbind (by assumption) | with_reducible exact yf_fm_M_term (by assumption) | with_reducible exact yf_fm_M_namePattern (by assumption) | with_reducible exact yf_fr_M_patternAt (by assumption) | with_reducible exact yf_fm_M_beginsUnit (by assumption) | with_reducible exact yf_fm_M_save (by assumption) | with_reducible exact yf_fm_M_addRoot (by assumption) | with_reducible exact yf_fm_M_level (by assumption) | with_reducible exact yf_fm_M_reduce (by assumption) | with_reducible exact yf_fm_M_takeBack (by assumption) | with_reducible exact yf_fm_M_forgetSaved (by assumption) | with_reducible exact yf_fr_M_last (by assumption) | with_reducible exact yf_fr_M_clause (by assumption) | with_reducible exact yf_fm_M_predefinedOf (by assumption) | with_reducible exact yf_fm_M_function0 (by assumption) | with_reducible exact yf_fm_M_program (by assumption) | with_reducible exact hF0 _ (by assumption) | with_reducible exact hF1 _ _ (by assumption) | with_reducible exact hF2 _ _ _ (by assumption) | with_reducible exact hF3 _ _ _ (by assumption) | with_reducible exact hF4 _ (by assumption) | with_reducible exact hF5 _ _ (by assumption) | with_reducible exact hF6 _ _ (by assumption) | with_reducible exact hF7 _ _ (by assumption) | with_reducible exact hF8 _ _ (by assumption) | with_reducible exact hF9 _ (by assumption) | with_reducible exact hF10 _ (by assumption) | with_reducible exact hF11 _ (by assumption) | with_reducible exact hF12 _ (by assumption) | with_reducible exact hF13 _ (by assumption) | with_reducible exact hF14 _ (by assumption) | with_reducible exact hF15 _ (by assumption) | with_reducible exact hF16 _ _ (by assumption) | with_reducible exact yf_fb_M_block_186 (by assumption) hF0 hF1 hF2 hF3 hF4 hF5 hF6 hF7 hF8 hF9 hF10 hF11 hF12 hF13 hF14 hF15 hF16 | with_reducible exact yf_fb_M_block_160 (by assumption) hF0 hF1 hF2 hF3 hF4 hF5 hF6 hF7 hF8 hF9 hF10 hF11 hF12 hF13 hF14 hF15 hF16 | with_reducible exact yf_fb_M_block_131 (by assumption) hF0 hF1 hF2 hF3 hF4 hF5 hF6 hF7 hF8 hF9 hF10 hF11 hF12 hF13 hF14 hF15 hF16 | with_reducible exact yf_fb_M_block_49 (by assumption) hF0 hF1 hF2 hF3 hF4 hF5 hF6 hF7 hF8 hF9 hF10 hF11 hF12 hF13 hF14 hF15 hF16 | with_reducible exact yf_fb_M_block_0 (by assumption) hF0 hF1 hF2 hF3 hF4 hF5 hF6 hF7 hF8 hF9 hF10 hF11 hF12 hF13 hF14 hF15 hF16 | with_reducible refine Kf_ltv (fun _ => ?_) | with_reducible refine Kf_I ?_ (by decide) | with_reducible refine Kf_A ?_ | with_reducible refine Kf_J ?_ | with_reducible refine Kf_L ?_)
end
end
