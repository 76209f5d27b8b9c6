/-! the class: a term's text goes into row 52 -/
set_option maxRecDepth 100000
def Kx2c (u w : MS) : Prop := w.1 1964 = Int32.ofNat 52 ∧ w.1 9 = u.1 9 ∧ ∀ k, k ≠ 52 → w.2.2.1 k = u.2.2.1 k
def Kx2E {α : Type} (u : MS) (o : Option (MS × α)) : Prop := ∀ w r, o = some (w, r) → Kx2c u w
section
variable {α β : Type} {u0 u w : MS} {k : Nat}
theorem Kx2_none : Kx2E u0 (none : Option (MS × α)) := fun _ _ e => by cases e
theorem Kx2_some {r : α} (h : Kx2c u0 w) : Kx2E u0 (some (w, r)) := fun _ _ e => by injection e with e; injection e with e1 _; exact e1 ▸ h
theorem Kx2_br {b : Bool} {p q : Option (MS × α)} (h1 : Kx2E u0 p) (h2 : Kx2E u0 q) : Kx2E u0 (br b p q) := by cases b <;> assumption
theorem Kx2_ck {b : Bool} {p : Option (MS × α)} (h1 : Kx2E u0 p) : Kx2E u0 (ck b p) := by
  cases b
  · exact Kx2_none
  · exact h1
theorem Kx2_bo {o : Option β} {f : β → Option (MS × α)} (h : ∀ j, Kx2E u0 (f j)) : Kx2E u0 (bo o f) := by
  cases o with
  | none => exact Kx2_none
  | some j => exact h j
theorem Kx2_bnd {o : Option (MS × β)} {f : MS → β → Option (MS × α)} (h1 : Kx2E u0 o) (h2 : ∀ w r, Kx2c u0 w → Kx2E u0 (f w r)) : Kx2E u0 (bnd o f) := by
  cases o with
  | none => exact Kx2_none
  | some x => exact h2 x.1 x.2 (h1 x.1 x.2 rfl)
theorem Kx2_T {o : Option (MS × (β ⊕ Nat))} {f : MS → β → Option (MS × (α ⊕ Nat))} (h1 : Kx2E u0 o) (h2 : ∀ w r, Kx2c u0 w → Kx2E u0 (f w r)) : Kx2E u0 (bTm o f) := by
  cases o with
  | none => exact Kx2_none
  | some x =>
    obtain ⟨x, z⟩ := x
    cases z with
    | inl v => exact h2 x v (h1 x _ rfl)
    | inr k => exact Kx2_some (h1 x _ rfl)
theorem Kx2_H {o : Option (MS × (β ⊕ Nat))} {f : MS → β → Option (MS × α)} {g : MS → Option (MS × α)} (h1 : Kx2E u0 o) (h2 : ∀ w r, Kx2c u0 w → Kx2E u0 (f w r)) (h3 : ∀ w, Kx2c u0 w → Kx2E u0 (g w)) : Kx2E u0 (bHm o f g) := by
  cases o with
  | none => exact Kx2_none
  | some x =>
    obtain ⟨x, z⟩ := x
    cases z with
    | inl v => exact h2 x v (h1 x _ rfl)
    | inr k =>
      show Kx2E u0 (if k = 3 then g x else none)
      split
      · exact h3 x (h1 x _ rfl)
      · exact Kx2_none
theorem Kx2_ltm {x : MS} {f : MS → Option (MS × α)} (h1 : Kx2c u0 x) (h2 : ∀ w, Kx2c u0 w → Kx2E u0 (f w)) : Kx2E u0 (lt x f) := h2 x h1
theorem Kx2_ltv {x : β} {f : β → Option (MS × α)} (h2 : ∀ y, Kx2E u0 (f y)) : Kx2E u0 (lt x f) := h2 x
theorem Kx2_I {v : Int32} (h : Kx2c u0 u) (hk : k ≠ 1964 ∧ k ≠ 9) : Kx2c u0 (upI u k v) := ⟨(upI_ne hk.1.symm).trans h.1, (upI_ne hk.2.symm).trans h.2.1, h.2.2⟩
theorem Kx2_L {v : Int64} (h : Kx2c u0 u) : Kx2c u0 (upL u k v) := h
theorem Kx2_J {v : Nat → Int64} (h : Kx2c u0 u) : Kx2c u0 (upJ u k v) := h
theorem Kx2_A {v : Nat → Int32} (h : Kx2c u0 u) (hk : k = 52) : Kx2c u0 (upA u k v) := ⟨h.1, h.2.1, fun j hj => (upA_no (by omega)).trans (h.2.2 j hj)⟩
theorem Kx2_boe {o : Option β} {f : β → Option (MS × α)} (h : ∀ j, o = some j → Kx2E u0 (f j)) : Kx2E u0 (bo o f) := by
  cases o with
  | none => exact Kx2_none
  | some j => exact h j rfl
theorem Kx2_52 {j : Nat} (h : Kx2c u0 u) (e : rf (u.1 1964) = some j) : j = 52 := by
  rw [h.1] at e
  have e2 : rf (Int32.ofNat 52) = some 52 := rfl
  rw [e2] at e
  injection e with e
  exact e.symm
end
section
variable {u0 u : MS} {N : Nat}
theorem yx2_hb_Te_write_0 {G : Unit} {v1 : Int32} (h : Kx2c u0 u) : Kx2E u0 (hb_Te_write_0 N G u v1) := by
  unfold hb_Te_write_0 hb_Te_write_52
  refine Kx2_br (Kx2_some h) (Kx2_boe (fun j hj => Kx2_br (Kx2_some h) (Kx2_boe (fun j2 h2 => Kx2_ck (Kx2_ltm (Kx2_A h (Kx2_52 h h2)) (fun w hw => Kx2_ltm (Kx2_I hw (by decide)) (fun w2 hw2 => Kx2_some hw2)))))))
theorem yx2_hb_Wo_sign_35 {G : Unit} (h : Kx2c u0 u)  : Kx2E u0 (hb_Wo_sign_35 N G u) := by
  unfold hb_Wo_sign_35
  repeat' (first | with_reducible assumption | with_reducible refine Kx2_br ?_ ?_ | with_reducible refine Kx2_bnd ?_ (fun _ _ _ => ?_) | with_reducible refine Kx2_ck ?_ | with_reducible refine Kx2_ltm ?_ (fun _ _ => ?_) | with_reducible refine Kx2_some ?_ | with_reducible refine Kx2_bo (fun _ => ?_) | with_reducible refine Kx2_T ?_ (fun _ _ _ => ?_) | with_reducible refine Kx2_H ?_ (fun _ _ _ => ?_) (fun _ _ => ?_) | with_reducible refine Kx2_ltv (fun _ => ?_) | with_reducible refine Kx2_I ?_ (by decide) | with_reducible refine Kx2_A ?_ (by decide) | with_reducible refine Kx2_J ?_ | with_reducible refine Kx2_L ?_)
theorem yx2_hb_Wo_sign_0 {G : Unit} {v0 : Nat} {v1 : Int32} {v2 : Int32} (h : Kx2c u0 u)  : Kx2E u0 (hb_Wo_sign_0 N G u v0 v1 v2) := by
  unfold hb_Wo_sign_0
  repeat' (first | with_reducible assumption | with_reducible refine Kx2_br ?_ ?_ | with_reducible refine Kx2_bnd ?_ (fun _ _ _ => ?_) | with_reducible refine Kx2_ck ?_ | with_reducible refine Kx2_ltm ?_ (fun _ _ => ?_) | with_reducible refine Kx2_some ?_ | with_reducible refine Kx2_bo (fun _ => ?_) | with_reducible refine Kx2_T ?_ (fun _ _ _ => ?_) | with_reducible refine Kx2_H ?_ (fun _ _ _ => ?_) (fun _ _ => ?_) | with_reducible exact yx2_hb_Wo_sign_35 (by assumption) | with_reducible refine Kx2_ltv (fun _ => ?_) | with_reducible refine Kx2_I ?_ (by decide) | with_reducible refine Kx2_A ?_ (by decide) | with_reducible refine Kx2_J ?_ | with_reducible refine Kx2_L ?_)
theorem yx2_hm_Wo_sign {v0 : Nat} {v1 : Int32} {v2 : Int32} (h : Kx2c u0 u)  : Kx2E u0 (hm_Wo_sign N u v0 v1 v2) := by
  unfold hm_Wo_sign
  exact yx2_hb_Wo_sign_0 h
theorem yx2_hb_Te_tag_0 {G : Unit} {v0 : Int64} (h : Kx2c u0 u)  : Kx2E u0 (hb_Te_tag_0 N G u v0) := by
  unfold hb_Te_tag_0
  repeat' (first | with_reducible assumption | with_reducible refine Kx2_br ?_ ?_ | with_reducible refine Kx2_bnd ?_ (fun _ _ _ => ?_) | with_reducible refine Kx2_ck ?_ | with_reducible refine Kx2_ltm ?_ (fun _ _ => ?_) | with_reducible refine Kx2_some ?_ | with_reducible refine Kx2_bo (fun _ => ?_) | with_reducible refine Kx2_T ?_ (fun _ _ _ => ?_) | with_reducible refine Kx2_H ?_ (fun _ _ _ => ?_) (fun _ _ => ?_) | with_reducible refine Kx2_ltv (fun _ => ?_) | with_reducible refine Kx2_I ?_ (by decide) | with_reducible refine Kx2_A ?_ (by decide) | with_reducible refine Kx2_J ?_ | with_reducible refine Kx2_L ?_)
theorem yx2_hm_Te_tag {v0 : Int64} (h : Kx2c u0 u)  : Kx2E u0 (hm_Te_tag N u v0) := by
  unfold hm_Te_tag
  exact yx2_hb_Te_tag_0 h
theorem yx2_hb_Te_make_0 {G : Unit} {v0 : Int32} {v1 : Int32} (h : Kx2c u0 u)  : Kx2E u0 (hb_Te_make_0 N G u v0 v1) := by
  unfold hb_Te_make_0
  repeat' (first | with_reducible assumption | with_reducible refine Kx2_br ?_ ?_ | with_reducible refine Kx2_bnd ?_ (fun _ _ _ => ?_) | with_reducible refine Kx2_ck ?_ | with_reducible refine Kx2_ltm ?_ (fun _ _ => ?_) | with_reducible refine Kx2_some ?_ | with_reducible refine Kx2_bo (fun _ => ?_) | with_reducible refine Kx2_T ?_ (fun _ _ _ => ?_) | with_reducible refine Kx2_H ?_ (fun _ _ _ => ?_) (fun _ _ => ?_) | with_reducible refine Kx2_ltv (fun _ => ?_) | with_reducible refine Kx2_I ?_ (by decide) | with_reducible refine Kx2_A ?_ (by decide) | with_reducible refine Kx2_J ?_ | with_reducible refine Kx2_L ?_)
theorem yx2_hm_Te_make {v0 : Int32} {v1 : Int32} (h : Kx2c u0 u)  : Kx2E u0 (hm_Te_make N u v0 v1) := by
  unfold hm_Te_make
  exact yx2_hb_Te_make_0 h
theorem yx2_hb_Te_push_0 {G : Unit} {v1 : Int32} {v2 : Int64} (h : Kx2c u0 u)  : Kx2E u0 (hb_Te_push_0 N G u v1 v2) := by
  unfold hb_Te_push_0
  repeat' (first | with_reducible assumption | with_reducible refine Kx2_br ?_ ?_ | with_reducible refine Kx2_bnd ?_ (fun _ _ _ => ?_) | with_reducible refine Kx2_ck ?_ | with_reducible refine Kx2_ltm ?_ (fun _ _ => ?_) | with_reducible refine Kx2_some ?_ | with_reducible refine Kx2_bo (fun _ => ?_) | with_reducible refine Kx2_T ?_ (fun _ _ _ => ?_) | with_reducible refine Kx2_H ?_ (fun _ _ _ => ?_) (fun _ _ => ?_) | with_reducible refine Kx2_ltv (fun _ => ?_) | with_reducible refine Kx2_I ?_ (by decide) | with_reducible refine Kx2_A ?_ (by decide) | with_reducible refine Kx2_J ?_ | with_reducible refine Kx2_L ?_)
theorem yx2_hm_Te_push {v1 : Int32} {v2 : Int64} (h : Kx2c u0 u)  : Kx2E u0 (hm_Te_push N u v1 v2) := by
  unfold hm_Te_push
  exact yx2_hb_Te_push_0 h
theorem yx2_hb_Te_toWriteTuple_60 {G : (MS → Nat → Int32 → Int32 → Int32 → Option (MS × Int32))} {v1 : Nat} {v2 : Int32} {v4 : Int32} {v5 : Int32} (h : Kx2c u0 u) (hG0 : ∀ (u : MS) a0 a1 a2 a3, Kx2c u0 u → Kx2E u0 (G u a0 a1 a2 a3)) : Kx2E u0 (hb_Te_toWriteTuple_60 N G u v1 v2 v4 v5) := by
  unfold hb_Te_toWriteTuple_60
  repeat' (first | with_reducible assumption | with_reducible refine Kx2_br ?_ ?_ | with_reducible refine Kx2_bnd ?_ (fun _ _ _ => ?_) | with_reducible refine Kx2_ck ?_ | with_reducible refine Kx2_ltm ?_ (fun _ _ => ?_) | with_reducible refine Kx2_some ?_ | with_reducible refine Kx2_bo (fun _ => ?_) | with_reducible refine Kx2_T ?_ (fun _ _ _ => ?_) | with_reducible refine Kx2_H ?_ (fun _ _ _ => ?_) (fun _ _ => ?_) | with_reducible exact hG0 _ _ _ _ _ (by assumption) | with_reducible refine Kx2_ltv (fun _ => ?_) | with_reducible refine Kx2_I ?_ (by decide) | with_reducible refine Kx2_A ?_ (by decide) | with_reducible refine Kx2_J ?_ | with_reducible refine Kx2_L ?_)
theorem yx2_hb_Te_toWriteTuple_20 {G : (MS → Nat → Int32 → Int32 → Int32 → Option (MS × Int32))} {v1 : Nat} {v2 : Int32} {v4 : Int32} {v5 : Int32} (h : Kx2c u0 u) (hG0 : ∀ (u : MS) a0 a1 a2 a3, Kx2c u0 u → Kx2E u0 (G u a0 a1 a2 a3)) : Kx2E u0 (hb_Te_toWriteTuple_20 N G u v1 v2 v4 v5) := by
  unfold hb_Te_toWriteTuple_20
  repeat' (first | with_reducible assumption | with_reducible refine Kx2_br ?_ ?_ | with_reducible refine Kx2_bnd ?_ (fun _ _ _ => ?_) | with_reducible refine Kx2_ck ?_ | with_reducible refine Kx2_ltm ?_ (fun _ _ => ?_) | with_reducible refine Kx2_some ?_ | with_reducible refine Kx2_bo (fun _ => ?_) | with_reducible refine Kx2_T ?_ (fun _ _ _ => ?_) | with_reducible refine Kx2_H ?_ (fun _ _ _ => ?_) (fun _ _ => ?_) | with_reducible exact yx2_hb_Te_toWriteTuple_60 (by assumption) hG0 | with_reducible exact yx2_hm_Te_make (by assumption) | with_reducible exact yx2_hm_Te_push (by assumption) | with_reducible exact hG0 _ _ _ _ _ (by assumption) | with_reducible refine Kx2_ltv (fun _ => ?_) | with_reducible refine Kx2_I ?_ (by decide) | with_reducible refine Kx2_A ?_ (by decide) | with_reducible refine Kx2_J ?_ | with_reducible refine Kx2_L ?_)
theorem yx2_hb_Te_toWriteTuple_0 {G : (MS → Nat → Int32 → Int32 → Int32 → Option (MS × Int32))} {v1 : Nat} {v2 : Int32} {v3 : Int32} (h : Kx2c u0 u) (hG0 : ∀ (u : MS) a0 a1 a2 a3, Kx2c u0 u → Kx2E u0 (G u a0 a1 a2 a3)) : Kx2E u0 (hb_Te_toWriteTuple_0 N G u v1 v2 v3) := by
  unfold hb_Te_toWriteTuple_0
  repeat' (first | with_reducible assumption | with_reducible refine Kx2_br ?_ ?_ | with_reducible refine Kx2_bnd ?_ (fun _ _ _ => ?_) | with_reducible refine Kx2_ck ?_ | with_reducible refine Kx2_ltm ?_ (fun _ _ => ?_) | with_reducible refine Kx2_some ?_ | with_reducible refine Kx2_bo (fun _ => ?_) | with_reducible refine Kx2_T ?_ (fun _ _ _ => ?_) | with_reducible refine Kx2_H ?_ (fun _ _ _ => ?_) (fun _ _ => ?_) | with_reducible exact yx2_hm_Te_make (by assumption) | with_reducible exact yx2_hm_Te_push (by assumption) | with_reducible exact hG0 _ _ _ _ _ (by assumption) | with_reducible refine Kx2_ltv (fun _ => ?_) | with_reducible refine Kx2_I ?_ (by decide) | with_reducible refine Kx2_A ?_ (by decide) | with_reducible refine Kx2_J ?_ | with_reducible refine Kx2_L ?_)
theorem yx2_hg_Te_toWriteTuple  (n : Nat) : (∀ (u : MS) a0 a1 a2 a3, Kx2c u0 u → Kx2E u0 ((hg_Te_toWriteTuple N n) u a0 a1 a2 a3)) := by
  induction n with
  | zero => exact fun _ _ _ _ _ _ => Kx2_none
  | succ n ih => exact fun _ _ _ _ _ h => yx2_hb_Te_toWriteTuple_20 (N := N) h ih
theorem yx2_hm_Te_toWriteTuple {v1 : Nat} {v2 : Int32} {v3 : Int32} (h : Kx2c u0 u)  : Kx2E u0 (hm_Te_toWriteTuple N u v1 v2 v3) := by
  unfold hm_Te_toWriteTuple
  exact yx2_hb_Te_toWriteTuple_0 h ((yx2_hg_Te_toWriteTuple N))
theorem yx2_hb_Te_toWritePair_0 {G : Unit} {v1 : Nat} {v2 : Int32} {v3 : Int32} (h : Kx2c u0 u)  : Kx2E u0 (hb_Te_toWritePair_0 N G u v1 v2 v3) := by
  unfold hb_Te_toWritePair_0
  repeat' (first | with_reducible assumption | with_reducible refine Kx2_br ?_ ?_ | with_reducible refine Kx2_bnd ?_ (fun _ _ _ => ?_) | with_reducible refine Kx2_ck ?_ | with_reducible refine Kx2_ltm ?_ (fun _ _ => ?_) | with_reducible refine Kx2_some ?_ | with_reducible refine Kx2_bo (fun _ => ?_) | with_reducible refine Kx2_T ?_ (fun _ _ _ => ?_) | with_reducible refine Kx2_H ?_ (fun _ _ _ => ?_) (fun _ _ => ?_) | with_reducible exact yx2_hm_Te_make (by assumption) | with_reducible exact yx2_hm_Te_push (by assumption) | with_reducible refine Kx2_ltv (fun _ => ?_) | with_reducible refine Kx2_I ?_ (by decide) | with_reducible refine Kx2_A ?_ (by decide) | with_reducible refine Kx2_J ?_ | with_reducible refine Kx2_L ?_)
theorem yx2_hm_Te_toWritePair {v1 : Nat} {v2 : Int32} {v3 : Int32} (h : Kx2c u0 u)  : Kx2E u0 (hm_Te_toWritePair N u v1 v2 v3) := by
  unfold hm_Te_toWritePair
  exact yx2_hb_Te_toWritePair_0 h
theorem yx2_hb_Wo_length_31 {G : Unit} {t0 : Int32} (h : Kx2c u0 u)  : Kx2E u0 (hb_Wo_length_31 N G u t0) := by
  unfold hb_Wo_length_31
  repeat' (first | with_reducible assumption | with_reducible refine Kx2_br ?_ ?_ | with_reducible refine Kx2_bnd ?_ (fun _ _ _ => ?_) | with_reducible refine Kx2_ck ?_ | with_reducible refine Kx2_ltm ?_ (fun _ _ => ?_) | with_reducible refine Kx2_some ?_ | with_reducible refine Kx2_bo (fun _ => ?_) | with_reducible refine Kx2_T ?_ (fun _ _ _ => ?_) | with_reducible refine Kx2_H ?_ (fun _ _ _ => ?_) (fun _ _ => ?_) | with_reducible refine Kx2_ltv (fun _ => ?_) | with_reducible refine Kx2_I ?_ (by decide) | with_reducible refine Kx2_A ?_ (by decide) | with_reducible refine Kx2_J ?_ | with_reducible refine Kx2_L ?_)
theorem yx2_hb_Wo_length_12 {G : Unit} (h : Kx2c u0 u)  : Kx2E u0 (hb_Wo_length_12 N G u) := by
  unfold hb_Wo_length_12
  repeat' (first | with_reducible assumption | with_reducible refine Kx2_br ?_ ?_ | with_reducible refine Kx2_bnd ?_ (fun _ _ _ => ?_) | with_reducible refine Kx2_ck ?_ | with_reducible refine Kx2_ltm ?_ (fun _ _ => ?_) | with_reducible refine Kx2_some ?_ | with_reducible refine Kx2_bo (fun _ => ?_) | with_reducible refine Kx2_T ?_ (fun _ _ _ => ?_) | with_reducible refine Kx2_H ?_ (fun _ _ _ => ?_) (fun _ _ => ?_) | with_reducible exact yx2_hb_Wo_length_31 (by assumption) | with_reducible refine Kx2_ltv (fun _ => ?_) | with_reducible refine Kx2_I ?_ (by decide) | with_reducible refine Kx2_A ?_ (by decide) | with_reducible refine Kx2_J ?_ | with_reducible refine Kx2_L ?_)
theorem yx2_hb_Wo_length_0 {G : Unit} {v0 : Nat} {v1 : Int32} (h : Kx2c u0 u)  : Kx2E u0 (hb_Wo_length_0 N G u v0 v1) := by
  unfold hb_Wo_length_0
  repeat' (first | with_reducible assumption | with_reducible refine Kx2_br ?_ ?_ | with_reducible refine Kx2_bnd ?_ (fun _ _ _ => ?_) | with_reducible refine Kx2_ck ?_ | with_reducible refine Kx2_ltm ?_ (fun _ _ => ?_) | with_reducible refine Kx2_some ?_ | with_reducible refine Kx2_bo (fun _ => ?_) | with_reducible refine Kx2_T ?_ (fun _ _ _ => ?_) | with_reducible refine Kx2_H ?_ (fun _ _ _ => ?_) (fun _ _ => ?_) | with_reducible exact yx2_hb_Wo_length_12 (by assumption) | with_reducible exact yx2_hb_Wo_length_31 (by assumption) | with_reducible refine Kx2_ltv (fun _ => ?_) | with_reducible refine Kx2_I ?_ (by decide) | with_reducible refine Kx2_A ?_ (by decide) | with_reducible refine Kx2_J ?_ | with_reducible refine Kx2_L ?_)
theorem yx2_hm_Wo_length {v0 : Nat} {v1 : Int32} (h : Kx2c u0 u)  : Kx2E u0 (hm_Wo_length N u v0 v1) := by
  unfold hm_Wo_length
  exact yx2_hb_Wo_length_0 h
theorem yx2_hb_Te_write_52 {G : Unit} (h : Kx2c u0 u)  : Kx2E u0 (hb_Te_write_52 N G u) := by
  unfold hb_Te_write_52
  repeat' (first | with_reducible assumption | with_reducible refine Kx2_br ?_ ?_ | with_reducible refine Kx2_bnd ?_ (fun _ _ _ => ?_) | with_reducible refine Kx2_ck ?_ | with_reducible refine Kx2_ltm ?_ (fun _ _ => ?_) | with_reducible refine Kx2_some ?_ | with_reducible refine Kx2_bo (fun _ => ?_) | with_reducible refine Kx2_T ?_ (fun _ _ _ => ?_) | with_reducible refine Kx2_H ?_ (fun _ _ _ => ?_) (fun _ _ => ?_) | with_reducible refine Kx2_ltv (fun _ => ?_) | with_reducible refine Kx2_I ?_ (by decide) | with_reducible refine Kx2_A ?_ (by decide) | with_reducible refine Kx2_J ?_ | with_reducible refine Kx2_L ?_)
theorem yx2_hm_Te_write {v1 : Int32} (h : Kx2c u0 u)  : Kx2E u0 (hm_Te_write N u v1) := by
  unfold hm_Te_write
  exact yx2_hb_Te_write_0 h
theorem yx2_hb_Te_toWriteRest_19 {G : Unit} {v1 : Nat} {v2 : Int32} {t0 : Int64} (h : Kx2c u0 u)  : Kx2E u0 (hb_Te_toWriteRest_19 N G u v1 v2 t0) := by
  unfold hb_Te_toWriteRest_19
  repeat' (first | with_reducible assumption | with_reducible refine Kx2_br ?_ ?_ | with_reducible refine Kx2_bnd ?_ (fun _ _ _ => ?_) | with_reducible refine Kx2_ck ?_ | with_reducible refine Kx2_ltm ?_ (fun _ _ => ?_) | with_reducible refine Kx2_some ?_ | with_reducible refine Kx2_bo (fun _ => ?_) | with_reducible refine Kx2_T ?_ (fun _ _ _ => ?_) | with_reducible refine Kx2_H ?_ (fun _ _ _ => ?_) (fun _ _ => ?_) | with_reducible exact yx2_hm_Te_toWritePair (by assumption) | with_reducible exact yx2_hm_Te_write (by assumption) | with_reducible exact yx2_hm_Te_make (by assumption) | with_reducible exact yx2_hm_Te_push (by assumption) | with_reducible exact yx2_hm_Te_tag (by assumption) | with_reducible refine Kx2_ltv (fun _ => ?_) | with_reducible refine Kx2_I ?_ (by decide) | with_reducible refine Kx2_A ?_ (by decide) | with_reducible refine Kx2_J ?_ | with_reducible refine Kx2_L ?_)
theorem yx2_hb_Te_toWriteRest_0 {G : Unit} {v1 : Nat} {v2 : Int32} (h : Kx2c u0 u)  : Kx2E u0 (hb_Te_toWriteRest_0 N G u v1 v2) := by
  unfold hb_Te_toWriteRest_0
  repeat' (first | with_reducible assumption | with_reducible refine Kx2_br ?_ ?_ | with_reducible refine Kx2_bnd ?_ (fun _ _ _ => ?_) | with_reducible refine Kx2_ck ?_ | with_reducible refine Kx2_ltm ?_ (fun _ _ => ?_) | with_reducible refine Kx2_some ?_ | with_reducible refine Kx2_bo (fun _ => ?_) | with_reducible refine Kx2_T ?_ (fun _ _ _ => ?_) | with_reducible refine Kx2_H ?_ (fun _ _ _ => ?_) (fun _ _ => ?_) | with_reducible exact yx2_hb_Te_toWriteRest_19 (by assumption) | with_reducible exact yx2_hm_Te_make (by assumption) | with_reducible refine Kx2_ltv (fun _ => ?_) | with_reducible refine Kx2_I ?_ (by decide) | with_reducible refine Kx2_A ?_ (by decide) | with_reducible refine Kx2_J ?_ | with_reducible refine Kx2_L ?_)
theorem yx2_hm_Te_toWriteRest {v1 : Nat} {v2 : Int32} (h : Kx2c u0 u)  : Kx2E u0 (hm_Te_toWriteRest N u v1 v2) := by
  unfold hm_Te_toWriteRest
  exact yx2_hb_Te_toWriteRest_0 h
theorem yx2_hb_Te_writeNumber_43 {G : (MS → Int64 → Int64 → Option (MS × Unit)) × (MS → Int64 → Int64 → Option (MS × Unit))} {v2 : Int64} {v4 : Int64} (h : Kx2c u0 u) (hG0 : ∀ (u : MS) a0 a1, Kx2c u0 u → Kx2E u0 (G.1 u a0 a1)) (hG1 : ∀ (u : MS) a0 a1, Kx2c u0 u → Kx2E u0 (G.2 u a0 a1)) : Kx2E u0 (hb_Te_writeNumber_43 N G u v2 v4) := by
  unfold hb_Te_writeNumber_43
  repeat' (first | with_reducible assumption | with_reducible refine Kx2_br ?_ ?_ | with_reducible refine Kx2_bnd ?_ (fun _ _ _ => ?_) | with_reducible refine Kx2_ck ?_ | with_reducible refine Kx2_ltm ?_ (fun _ _ => ?_) | with_reducible refine Kx2_some ?_ | with_reducible refine Kx2_bo (fun _ => ?_) | with_reducible refine Kx2_T ?_ (fun _ _ _ => ?_) | with_reducible refine Kx2_H ?_ (fun _ _ _ => ?_) (fun _ _ => ?_) | with_reducible exact yx2_hm_Te_write (by assumption) | with_reducible exact hG0 _ _ _ (by assumption) | with_reducible exact hG1 _ _ _ (by assumption) | with_reducible refine Kx2_ltv (fun _ => ?_) | with_reducible refine Kx2_I ?_ (by decide) | with_reducible refine Kx2_A ?_ (by decide) | with_reducible refine Kx2_J ?_ | with_reducible refine Kx2_L ?_)
theorem yx2_hb_Te_writeNumber_21 {G : (MS → Int64 → Int64 → Option (MS × Unit)) × (MS → Int64 → Int64 → Option (MS × Unit))} {v2 : Int64} {v4 : Int64} (h : Kx2c u0 u) (hG0 : ∀ (u : MS) a0 a1, Kx2c u0 u → Kx2E u0 (G.1 u a0 a1)) (hG1 : ∀ (u : MS) a0 a1, Kx2c u0 u → Kx2E u0 (G.2 u a0 a1)) : Kx2E u0 (hb_Te_writeNumber_21 N G u v2 v4) := by
  unfold hb_Te_writeNumber_21
  repeat' (first | with_reducible assumption | with_reducible refine Kx2_br ?_ ?_ | with_reducible refine Kx2_bnd ?_ (fun _ _ _ => ?_) | with_reducible refine Kx2_ck ?_ | with_reducible refine Kx2_ltm ?_ (fun _ _ => ?_) | with_reducible refine Kx2_some ?_ | with_reducible refine Kx2_bo (fun _ => ?_) | with_reducible refine Kx2_T ?_ (fun _ _ _ => ?_) | with_reducible refine Kx2_H ?_ (fun _ _ _ => ?_) (fun _ _ => ?_) | with_reducible exact hG0 _ _ _ (by assumption) | with_reducible exact hG1 _ _ _ (by assumption) | with_reducible refine Kx2_ltv (fun _ => ?_) | with_reducible refine Kx2_I ?_ (by decide) | with_reducible refine Kx2_A ?_ (by decide) | with_reducible refine Kx2_J ?_ | with_reducible refine Kx2_L ?_)
theorem yx2_hb_Te_writeNumber_18 {G : (MS → Int64 → Int64 → Option (MS × Unit)) × (MS → Int64 → Int64 → Option (MS × Unit))} {v2 : Int64} (h : Kx2c u0 u) (hG0 : ∀ (u : MS) a0 a1, Kx2c u0 u → Kx2E u0 (G.1 u a0 a1)) (hG1 : ∀ (u : MS) a0 a1, Kx2c u0 u → Kx2E u0 (G.2 u a0 a1)) : Kx2E u0 (hb_Te_writeNumber_18 N G u v2) := by
  unfold hb_Te_writeNumber_18
  repeat' (first | with_reducible assumption | with_reducible refine Kx2_br ?_ ?_ | with_reducible refine Kx2_bnd ?_ (fun _ _ _ => ?_) | with_reducible refine Kx2_ck ?_ | with_reducible refine Kx2_ltm ?_ (fun _ _ => ?_) | with_reducible refine Kx2_some ?_ | with_reducible refine Kx2_bo (fun _ => ?_) | with_reducible refine Kx2_T ?_ (fun _ _ _ => ?_) | with_reducible refine Kx2_H ?_ (fun _ _ _ => ?_) (fun _ _ => ?_) | with_reducible exact hG0 _ _ _ (by assumption) | with_reducible exact hG1 _ _ _ (by assumption) | with_reducible refine Kx2_ltv (fun _ => ?_) | with_reducible refine Kx2_I ?_ (by decide) | with_reducible refine Kx2_A ?_ (by decide) | with_reducible refine Kx2_J ?_ | with_reducible refine Kx2_L ?_)
theorem yx2_hb_Te_writeNumber_0 {G : (MS → Int64 → Int64 → Option (MS × Unit)) × (MS → Int64 → Int64 → Option (MS × Unit))} {v1 : Int32} (h : Kx2c u0 u) (hG0 : ∀ (u : MS) a0 a1, Kx2c u0 u → Kx2E u0 (G.1 u a0 a1)) (hG1 : ∀ (u : MS) a0 a1, Kx2c u0 u → Kx2E u0 (G.2 u a0 a1)) : Kx2E u0 (hb_Te_writeNumber_0 N G u v1) := by
  unfold hb_Te_writeNumber_0
  repeat' (first | with_reducible assumption | with_reducible refine Kx2_br ?_ ?_ | with_reducible refine Kx2_bnd ?_ (fun _ _ _ => ?_) | with_reducible refine Kx2_ck ?_ | with_reducible refine Kx2_ltm ?_ (fun _ _ => ?_) | with_reducible refine Kx2_some ?_ | with_reducible refine Kx2_bo (fun _ => ?_) | with_reducible refine Kx2_T ?_ (fun _ _ _ => ?_) | with_reducible refine Kx2_H ?_ (fun _ _ _ => ?_) (fun _ _ => ?_) | with_reducible exact yx2_hb_Te_writeNumber_18 (by assumption) hG0 hG1 | with_reducible exact yx2_hm_Te_write (by assumption) | with_reducible exact hG0 _ _ _ (by assumption) | with_reducible exact hG1 _ _ _ (by assumption) | with_reducible refine Kx2_ltv (fun _ => ?_) | with_reducible refine Kx2_I ?_ (by decide) | with_reducible refine Kx2_A ?_ (by decide) | with_reducible refine Kx2_J ?_ | with_reducible refine Kx2_L ?_)
theorem yx2_hg_Te_writeNumber  (n : Nat) : (∀ (u : MS) a0 a1, Kx2c u0 u → Kx2E u0 ((hg_Te_writeNumber N n).1 u a0 a1)) ∧ (∀ (u : MS) a0 a1, Kx2c u0 u → Kx2E u0 ((hg_Te_writeNumber N n).2 u a0 a1)) := by
  induction n with
  | zero => exact ⟨fun _ _ _ _ => Kx2_none, fun _ _ _ _ => Kx2_none⟩
  | succ n ih => exact ⟨fun _ _ _ h => yx2_hb_Te_writeNumber_21 (N := N) h ih.1 ih.2, fun _ _ _ h => yx2_hb_Te_writeNumber_43 (N := N) h ih.1 ih.2⟩
theorem yx2_hm_Te_writeNumber {v1 : Int32} (h : Kx2c u0 u)  : Kx2E u0 (hm_Te_writeNumber N u v1) := by
  unfold hm_Te_writeNumber
  exact yx2_hb_Te_writeNumber_0 h ((yx2_hg_Te_writeNumber N).1) ((yx2_hg_Te_writeNumber N).2)
theorem yx2_hb_Te_writeAlone_170 {G : (MS → Int32 → Int32 → Option (MS × Unit))} (h : Kx2c u0 u) (hG0 : ∀ (u : MS) a0 a1, Kx2c u0 u → Kx2E u0 (G u a0 a1)) : Kx2E u0 (hb_Te_writeAlone_170 N G u) := by
  unfold hb_Te_writeAlone_170
  repeat' (first | with_reducible assumption | with_reducible refine Kx2_br ?_ ?_ | with_reducible refine Kx2_bnd ?_ (fun _ _ _ => ?_) | with_reducible refine Kx2_ck ?_ | with_reducible refine Kx2_ltm ?_ (fun _ _ => ?_) | with_reducible refine Kx2_some ?_ | with_reducible refine Kx2_bo (fun _ => ?_) | with_reducible refine Kx2_T ?_ (fun _ _ _ => ?_) | with_reducible refine Kx2_H ?_ (fun _ _ _ => ?_) (fun _ _ => ?_) | with_reducible exact hG0 _ _ _ (by assumption) | with_reducible refine Kx2_ltv (fun _ => ?_) | with_reducible refine Kx2_I ?_ (by decide) | with_reducible refine Kx2_A ?_ (by decide) | with_reducible refine Kx2_J ?_ | with_reducible refine Kx2_L ?_)
theorem yx2_hb_Te_writeAlone_59 {G : (MS → Int32 → Int32 → Option (MS × Unit))} {v3 : Int32} {v4 : Int32} (h : Kx2c u0 u) (hG0 : ∀ (u : MS) a0 a1, Kx2c u0 u → Kx2E u0 (G u a0 a1)) : Kx2E u0 (hb_Te_writeAlone_59 N G u v3 v4) := by
  unfold hb_Te_writeAlone_59
  repeat' (first | with_reducible assumption | with_reducible refine Kx2_br ?_ ?_ | with_reducible refine Kx2_bnd ?_ (fun _ _ _ => ?_) | with_reducible refine Kx2_ck ?_ | with_reducible refine Kx2_ltm ?_ (fun _ _ => ?_) | with_reducible refine Kx2_some ?_ | with_reducible refine Kx2_bo (fun _ => ?_) | with_reducible refine Kx2_T ?_ (fun _ _ _ => ?_) | with_reducible refine Kx2_H ?_ (fun _ _ _ => ?_) (fun _ _ => ?_) | with_reducible exact yx2_hb_Te_writeAlone_170 (by assumption) hG0 | with_reducible exact yx2_hm_Wo_length (by assumption) | with_reducible exact yx2_hm_Te_write (by assumption) | with_reducible exact yx2_hm_Wo_sign (by assumption) | with_reducible exact hG0 _ _ _ (by assumption) | with_reducible refine Kx2_ltv (fun _ => ?_) | with_reducible refine Kx2_I ?_ (by decide) | with_reducible refine Kx2_A ?_ (by decide) | with_reducible refine Kx2_J ?_ | with_reducible refine Kx2_L ?_)
theorem yx2_hb_Te_writeAlone_0 {G : (MS → Int32 → Int32 → Option (MS × Unit))} {v1 : Int64} (h : Kx2c u0 u) (hG0 : ∀ (u : MS) a0 a1, Kx2c u0 u → Kx2E u0 (G u a0 a1)) : Kx2E u0 (hb_Te_writeAlone_0 N G u v1) := by
  unfold hb_Te_writeAlone_0
  repeat' (first | with_reducible assumption | with_reducible refine Kx2_br ?_ ?_ | with_reducible refine Kx2_bnd ?_ (fun _ _ _ => ?_) | with_reducible refine Kx2_ck ?_ | with_reducible refine Kx2_ltm ?_ (fun _ _ => ?_) | with_reducible refine Kx2_some ?_ | with_reducible refine Kx2_bo (fun _ => ?_) | with_reducible refine Kx2_T ?_ (fun _ _ _ => ?_) | with_reducible refine Kx2_H ?_ (fun _ _ _ => ?_) (fun _ _ => ?_) | with_reducible exact yx2_hb_Te_writeAlone_170 (by assumption) hG0 | with_reducible exact yx2_hm_Te_writeNumber (by assumption) | with_reducible exact yx2_hm_Te_write (by assumption) | with_reducible exact yx2_hm_Te_tag (by assumption) | with_reducible exact hG0 _ _ _ (by assumption) | with_reducible refine Kx2_ltv (fun _ => ?_) | with_reducible refine Kx2_I ?_ (by decide) | with_reducible refine Kx2_A ?_ (by decide) | with_reducible refine Kx2_J ?_ | with_reducible refine Kx2_L ?_)
theorem yx2_hg_Te_writeAlone  (n : Nat) : (∀ (u : MS) a0 a1, Kx2c u0 u → Kx2E u0 ((hg_Te_writeAlone N n) u a0 a1)) := by
  induction n with
  | zero => exact fun _ _ _ _ => Kx2_none
  | succ n ih => exact fun _ _ _ h => yx2_hb_Te_writeAlone_59 (N := N) h ih
theorem yx2_hm_Te_writeAlone {v1 : Int64} (h : Kx2c u0 u)  : Kx2E u0 (hm_Te_writeAlone N u v1) := by
  unfold hm_Te_writeAlone
  exact yx2_hb_Te_writeAlone_0 h ((yx2_hg_Te_writeAlone N))
theorem yx2_hb_Te_text_174 {G : (MS → Nat → Int32 → Int32 → Option (MS × Int32))} (h : Kx2c u0 u) (hG0 : ∀ (u : MS) a0 a1 a2, Kx2c u0 u → Kx2E u0 (G u a0 a1 a2)) : Kx2E u0 (hb_Te_text_174 N G u) := by
  unfold hb_Te_text_174
  repeat' (first | with_reducible assumption | with_reducible refine Kx2_br ?_ ?_ | with_reducible refine Kx2_bnd ?_ (fun _ _ _ => ?_) | with_reducible refine Kx2_ck ?_ | with_reducible refine Kx2_ltm ?_ (fun _ _ => ?_) | with_reducible refine Kx2_some ?_ | with_reducible refine Kx2_bo (fun _ => ?_) | with_reducible refine Kx2_T ?_ (fun _ _ _ => ?_) | with_reducible refine Kx2_H ?_ (fun _ _ _ => ?_) (fun _ _ => ?_) | with_reducible exact hG0 _ _ _ _ (by assumption) | with_reducible refine Kx2_ltv (fun _ => ?_) | with_reducible refine Kx2_I ?_ (by decide) | with_reducible refine Kx2_A ?_ (by decide) | with_reducible refine Kx2_J ?_ | with_reducible refine Kx2_L ?_)
theorem yx2_hb_Te_text_168 {G : (MS → Nat → Int32 → Int32 → Option (MS × Int32))} {v1 : Nat} {v6 : Int32} {v7 : Int32} (h : Kx2c u0 u) (hG0 : ∀ (u : MS) a0 a1 a2, Kx2c u0 u → Kx2E u0 (G u a0 a1 a2)) : Kx2E u0 (hb_Te_text_168 N G u v1 v6 v7) := by
  unfold hb_Te_text_168
  repeat' (first | with_reducible assumption | with_reducible refine Kx2_br ?_ ?_ | with_reducible refine Kx2_bnd ?_ (fun _ _ _ => ?_) | with_reducible refine Kx2_ck ?_ | with_reducible refine Kx2_ltm ?_ (fun _ _ => ?_) | with_reducible refine Kx2_some ?_ | with_reducible refine Kx2_bo (fun _ => ?_) | with_reducible refine Kx2_T ?_ (fun _ _ _ => ?_) | with_reducible refine Kx2_H ?_ (fun _ _ _ => ?_) (fun _ _ => ?_) | with_reducible exact hG0 _ _ _ _ (by assumption) | with_reducible refine Kx2_ltv (fun _ => ?_) | with_reducible refine Kx2_I ?_ (by decide) | with_reducible refine Kx2_A ?_ (by decide) | with_reducible refine Kx2_J ?_ | with_reducible refine Kx2_L ?_)
theorem yx2_hb_Te_text_30 {G : (MS → Nat → Int32 → Int32 → Option (MS × Int32))} {v1 : Nat} {v6 : Int32} {v7 : Int32} (h : Kx2c u0 u) (hG0 : ∀ (u : MS) a0 a1 a2, Kx2c u0 u → Kx2E u0 (G u a0 a1 a2)) : Kx2E u0 (hb_Te_text_30 N G u v1 v6 v7) := by
  unfold hb_Te_text_30
  repeat' (first | with_reducible assumption | with_reducible refine Kx2_br ?_ ?_ | with_reducible refine Kx2_bnd ?_ (fun _ _ _ => ?_) | with_reducible refine Kx2_ck ?_ | with_reducible refine Kx2_ltm ?_ (fun _ _ => ?_) | with_reducible refine Kx2_some ?_ | with_reducible refine Kx2_bo (fun _ => ?_) | with_reducible refine Kx2_T ?_ (fun _ _ _ => ?_) | with_reducible refine Kx2_H ?_ (fun _ _ _ => ?_) (fun _ _ => ?_) | with_reducible exact yx2_hb_Te_text_168 (by assumption) hG0 | with_reducible exact yx2_hb_Te_text_174 (by assumption) hG0 | with_reducible exact yx2_hm_Te_toWriteTuple (by assumption) | with_reducible exact yx2_hm_Te_toWritePair (by assumption) | with_reducible exact yx2_hm_Te_toWriteRest (by assumption) | with_reducible exact yx2_hm_Te_writeAlone (by assumption) | with_reducible exact yx2_hm_Te_write (by assumption) | with_reducible exact yx2_hm_Te_tag (by assumption) | with_reducible exact hG0 _ _ _ _ (by assumption) | with_reducible refine Kx2_ltv (fun _ => ?_) | with_reducible refine Kx2_I ?_ (by decide) | with_reducible refine Kx2_A ?_ (by decide) | with_reducible refine Kx2_J ?_ | with_reducible refine Kx2_L ?_)
theorem yx2_hg_Te_text  (n : Nat) : (∀ (u : MS) a0 a1 a2, Kx2c u0 u → Kx2E u0 ((hg_Te_text N n) u a0 a1 a2)) := by
  induction n with
  | zero => exact fun _ _ _ _ _ => Kx2_none
  | succ n ih => exact fun _ _ _ _ h => yx2_hb_Te_text_30 (N := N) h ih
end
