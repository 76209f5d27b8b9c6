set_option maxRecDepth 100000
def Kwc (u w : MS) : Prop := u.1 441 ≤ w.1 441
def KwE {α : Type} (u : MS) (o : Option (MS × α)) : Prop := ∀ w r, o = some (w, r) → Kwc u w
section
variable {α β : Type} {u0 u w : MS} {k : Nat}
theorem Kw_none : KwE u0 (none : Option (MS × α)) := fun _ _ e => by cases e
theorem Kw_some {r : α} (h : Kwc u0 w) : KwE u0 (some (w, r)) := fun _ _ e => by injection e with e; injection e with e1 _; exact e1 ▸ h
theorem Kw_br {b : Bool} {p q : Option (MS × α)} (h1 : KwE u0 p) (h2 : KwE u0 q) : KwE u0 (br b p q) := by cases b <;> assumption
theorem Kw_ck {b : Bool} {p : Option (MS × α)} (h1 : KwE u0 p) : KwE u0 (ck b p) := by
  cases b
  · exact Kw_none
  · exact h1
theorem Kw_bo {o : Option β} {f : β → Option (MS × α)} (h : ∀ j, KwE u0 (f j)) : KwE u0 (bo o f) := by
  cases o with
  | none => exact Kw_none
  | some j => exact h j
theorem Kw_bnd {o : Option (MS × β)} {f : MS → β → Option (MS × α)} (h1 : KwE u0 o) (h2 : ∀ w r, Kwc u0 w → KwE u0 (f w r)) : KwE u0 (bnd o f) := by
  cases o with
  | none => exact Kw_none
  | some x => exact h2 x.1 x.2 (h1 x.1 x.2 rfl)
theorem Kw_T {o : Option (MS × (β ⊕ Nat))} {f : MS → β → Option (MS × (α ⊕ Nat))} (h1 : KwE u0 o) (h2 : ∀ w r, Kwc u0 w → KwE u0 (f w r)) : KwE u0 (bTm o f) := by
  cases o with
  | none => exact Kw_none
  | some x =>
    obtain ⟨x, z⟩ := x
    cases z with
    | inl v => exact h2 x v (h1 x _ rfl)
    | inr k => exact Kw_some (h1 x _ rfl)
theorem Kw_H {o : Option (MS × (β ⊕ Nat))} {f : MS → β → Option (MS × α)} {g : MS → Option (MS × α)} (h1 : KwE u0 o) (h2 : ∀ w r, Kwc u0 w → KwE u0 (f w r)) (h3 : ∀ w, Kwc u0 w → KwE u0 (g w)) : KwE u0 (bHm o f g) := by
  cases o with
  | none => exact Kw_none
  | some x =>
    obtain ⟨x, z⟩ := x
    cases z with
    | inl v => exact h2 x v (h1 x _ rfl)
    | inr k =>
      show KwE u0 (if k = 3 then g x else none)
      split
      · exact h3 x (h1 x _ rfl)
      · exact Kw_none
theorem Kw_ltm {x : MS} {f : MS → Option (MS × α)} (h1 : Kwc u0 x) (h2 : ∀ w, Kwc u0 w → KwE u0 (f w)) : KwE u0 (lt x f) := h2 x h1
theorem Kw_ltv {x : β} {f : β → Option (MS × α)} (h2 : ∀ y, KwE u0 (f y)) : KwE u0 (lt x f) := h2 x
theorem Kw_I {v : Int32} (h : Kwc u0 u) (hk : k ≠ 441) : Kwc u0 (upI u k v) := by
  unfold Kwc at h ⊢
  rw [upI_ne (Ne.symm hk)]
  exact h
theorem Kw_L {v : Int64} (h : Kwc u0 u) : Kwc u0 (upL u k v) := h
theorem Kw_J {v : Nat → Int64} (h : Kwc u0 u) : Kwc u0 (upJ u k v) := h
theorem Kw_A {v : Nat → Int32} (h : Kwc u0 u) (_ : True) : Kwc u0 (upA u k v) := h
end
section
variable {u0 u : MS} {N : Nat}
theorem yw_hb_Co_put_0 {G : Unit} {v1 : Int32} (h : Kwc u0 u) : KwE u0 (hb_Co_put_0 N G u v1) := fun w r e => Int32.le_trans h (yu_hb_Co_put_0 (u0 := u) Ku_rf w r e).2.2
theorem yw_hb_To_signAt_26 {G : Unit} {t0 : Int32} (h : Kwc u0 u)  : KwE u0 (hb_To_signAt_26 N G u t0) := by
  unfold hb_To_signAt_26
  repeat' (first | with_reducible assumption | with_reducible refine Kw_br ?_ ?_ | with_reducible refine Kw_bnd ?_ (fun _ _ _ => ?_) | with_reducible refine Kw_ck ?_ | with_reducible refine Kw_ltm ?_ (fun _ _ => ?_) | with_reducible refine Kw_some ?_ | with_reducible refine Kw_bo (fun _ => ?_) | with_reducible refine Kw_T ?_ (fun _ _ _ => ?_) | with_reducible refine Kw_H ?_ (fun _ _ _ => ?_) (fun _ _ => ?_) | with_reducible refine Kw_ltv (fun _ => ?_) | with_reducible refine Kw_I ?_ (by decide) | with_reducible refine Kw_A ?_ (by decide) | with_reducible refine Kw_J ?_ | with_reducible refine Kw_L ?_)
theorem yw_hb_To_signAt_12 {G : Unit} (h : Kwc u0 u)  : KwE u0 (hb_To_signAt_12 N G u) := by
  unfold hb_To_signAt_12
  repeat' (first | with_reducible assumption | with_reducible refine Kw_br ?_ ?_ | with_reducible refine Kw_bnd ?_ (fun _ _ _ => ?_) | with_reducible refine Kw_ck ?_ | with_reducible refine Kw_ltm ?_ (fun _ _ => ?_) | with_reducible refine Kw_some ?_ | with_reducible refine Kw_bo (fun _ => ?_) | with_reducible refine Kw_T ?_ (fun _ _ _ => ?_) | with_reducible refine Kw_H ?_ (fun _ _ _ => ?_) (fun _ _ => ?_) | with_reducible exact yw_hb_To_signAt_26 (by assumption) | with_reducible refine Kw_ltv (fun _ => ?_) | with_reducible refine Kw_I ?_ (by decide) | with_reducible refine Kw_A ?_ (by decide) | with_reducible refine Kw_J ?_ | with_reducible refine Kw_L ?_)
theorem yw_hb_To_signAt_0 {G : Unit} {v1 : Int32} (h : Kwc u0 u)  : KwE u0 (hb_To_signAt_0 N G u v1) := by
  unfold hb_To_signAt_0
  repeat' (first | with_reducible assumption | with_reducible refine Kw_br ?_ ?_ | with_reducible refine Kw_bnd ?_ (fun _ _ _ => ?_) | with_reducible refine Kw_ck ?_ | with_reducible refine Kw_ltm ?_ (fun _ _ => ?_) | with_reducible refine Kw_some ?_ | with_reducible refine Kw_bo (fun _ => ?_) | with_reducible refine Kw_T ?_ (fun _ _ _ => ?_) | with_reducible refine Kw_H ?_ (fun _ _ _ => ?_) (fun _ _ => ?_) | with_reducible exact yw_hb_To_signAt_12 (by assumption) | with_reducible exact yw_hb_To_signAt_26 (by assumption) | with_reducible refine Kw_ltv (fun _ => ?_) | with_reducible refine Kw_I ?_ (by decide) | with_reducible refine Kw_A ?_ (by decide) | with_reducible refine Kw_J ?_ | with_reducible refine Kw_L ?_)
theorem yw_hm_To_signAt {v1 : Int32} (h : Kwc u0 u)  : KwE u0 (hm_To_signAt N u v1) := by
  unfold hm_To_signAt
  exact yw_hb_To_signAt_0 h
theorem yw_hm_Co_put {v1 : Int32} (h : Kwc u0 u)  : KwE u0 (hm_Co_put N u v1) := by
  unfold hm_Co_put
  exact yw_hb_Co_put_0 h
theorem yw_hb_Cm_term_0 {G : Unit} {v1 : Int32} {v2 : Int32} (h : Kwc u0 u)  : KwE u0 (hb_Cm_term_0 N G u v1 v2) := by
  unfold hb_Cm_term_0
  repeat' (first | with_reducible assumption | with_reducible refine Kw_br ?_ ?_ | with_reducible refine Kw_bnd ?_ (fun _ _ _ => ?_) | with_reducible refine Kw_ck ?_ | with_reducible refine Kw_ltm ?_ (fun _ _ => ?_) | with_reducible refine Kw_some ?_ | with_reducible refine Kw_bo (fun _ => ?_) | with_reducible refine Kw_T ?_ (fun _ _ _ => ?_) | with_reducible refine Kw_H ?_ (fun _ _ _ => ?_) (fun _ _ => ?_) | with_reducible exact yw_hm_Co_put (by assumption) | with_reducible refine Kw_ltv (fun _ => ?_) | with_reducible refine Kw_I ?_ (by decide) | with_reducible refine Kw_A ?_ (by decide) | with_reducible refine Kw_J ?_ | with_reducible refine Kw_L ?_)
theorem yw_hm_Cm_term {v1 : Int32} {v2 : Int32} (h : Kwc u0 u)  : KwE u0 (hm_Cm_term N u v1 v2) := by
  unfold hm_Cm_term
  exact yw_hb_Cm_term_0 h
theorem yw_hb_Cm_string_50 {G : (MS → Int32 → Int32 → Option (MS × Unit)) × (MS → Int32 → Int32 → Int32 → Option (MS × Unit))} {v2 : Int32} {v3 : Int32} {v4 : Int32} (h : Kwc u0 u) (hG0 : ∀ (u : MS) a0 a1, Kwc u0 u → KwE u0 (G.1 u a0 a1)) (hG1 : ∀ (u : MS) a0 a1 a2, Kwc u0 u → KwE u0 (G.2 u a0 a1 a2)) : KwE u0 (hb_Cm_string_50 N G u v2 v3 v4) := by
  unfold hb_Cm_string_50
  repeat' (first | with_reducible assumption | with_reducible refine Kw_br ?_ ?_ | with_reducible refine Kw_bnd ?_ (fun _ _ _ => ?_) | with_reducible refine Kw_ck ?_ | with_reducible refine Kw_ltm ?_ (fun _ _ => ?_) | with_reducible refine Kw_some ?_ | with_reducible refine Kw_bo (fun _ => ?_) | with_reducible refine Kw_T ?_ (fun _ _ _ => ?_) | with_reducible refine Kw_H ?_ (fun _ _ _ => ?_) (fun _ _ => ?_) | with_reducible exact yw_hm_To_signAt (by assumption) | with_reducible exact yw_hm_Co_put (by assumption) | with_reducible exact hG0 _ _ _ (by assumption) | with_reducible exact hG1 _ _ _ _ (by assumption) | with_reducible refine Kw_ltv (fun _ => ?_) | with_reducible refine Kw_I ?_ (by decide) | with_reducible refine Kw_A ?_ (by decide) | with_reducible refine Kw_J ?_ | with_reducible refine Kw_L ?_)
theorem yw_hb_Cm_string_39 {G : (MS → Int32 → Int32 → Option (MS × Unit)) × (MS → Int32 → Int32 → Int32 → Option (MS × Unit))} {v2 : Int32} {v3 : Int32} (h : Kwc u0 u) (hG0 : ∀ (u : MS) a0 a1, Kwc u0 u → KwE u0 (G.1 u a0 a1)) (hG1 : ∀ (u : MS) a0 a1 a2, Kwc u0 u → KwE u0 (G.2 u a0 a1 a2)) : KwE u0 (hb_Cm_string_39 N G u v2 v3) := by
  unfold hb_Cm_string_39
  repeat' (first | with_reducible assumption | with_reducible refine Kw_br ?_ ?_ | with_reducible refine Kw_bnd ?_ (fun _ _ _ => ?_) | with_reducible refine Kw_ck ?_ | with_reducible refine Kw_ltm ?_ (fun _ _ => ?_) | with_reducible refine Kw_some ?_ | with_reducible refine Kw_bo (fun _ => ?_) | with_reducible refine Kw_T ?_ (fun _ _ _ => ?_) | with_reducible refine Kw_H ?_ (fun _ _ _ => ?_) (fun _ _ => ?_) | with_reducible exact yw_hm_Co_put (by assumption) | with_reducible exact hG0 _ _ _ (by assumption) | with_reducible exact hG1 _ _ _ _ (by assumption) | with_reducible refine Kw_ltv (fun _ => ?_) | with_reducible refine Kw_I ?_ (by decide) | with_reducible refine Kw_A ?_ (by decide) | with_reducible refine Kw_J ?_ | with_reducible refine Kw_L ?_)
theorem yw_hb_Cm_string_12 {G : (MS → Int32 → Int32 → Option (MS × Unit)) × (MS → Int32 → Int32 → Int32 → Option (MS × Unit))} {v2 : Int32} {v3 : Int32} (h : Kwc u0 u) (hG0 : ∀ (u : MS) a0 a1, Kwc u0 u → KwE u0 (G.1 u a0 a1)) (hG1 : ∀ (u : MS) a0 a1 a2, Kwc u0 u → KwE u0 (G.2 u a0 a1 a2)) : KwE u0 (hb_Cm_string_12 N G u v2 v3) := by
  unfold hb_Cm_string_12
  repeat' (first | with_reducible assumption | with_reducible refine Kw_br ?_ ?_ | with_reducible refine Kw_bnd ?_ (fun _ _ _ => ?_) | with_reducible refine Kw_ck ?_ | with_reducible refine Kw_ltm ?_ (fun _ _ => ?_) | with_reducible refine Kw_some ?_ | with_reducible refine Kw_bo (fun _ => ?_) | with_reducible refine Kw_T ?_ (fun _ _ _ => ?_) | with_reducible refine Kw_H ?_ (fun _ _ _ => ?_) (fun _ _ => ?_) | with_reducible exact yw_hb_Cm_string_39 (by assumption) hG0 hG1 | with_reducible exact yw_hm_To_signAt (by assumption) | with_reducible exact hG0 _ _ _ (by assumption) | with_reducible exact hG1 _ _ _ _ (by assumption) | with_reducible refine Kw_ltv (fun _ => ?_) | with_reducible refine Kw_I ?_ (by decide) | with_reducible refine Kw_A ?_ (by decide) | with_reducible refine Kw_J ?_ | with_reducible refine Kw_L ?_)
theorem yw_hb_Cm_string_0 {G : (MS → Int32 → Int32 → Option (MS × Unit)) × (MS → Int32 → Int32 → Int32 → Option (MS × Unit))} {v1 : Int32} (h : Kwc u0 u) (hG0 : ∀ (u : MS) a0 a1, Kwc u0 u → KwE u0 (G.1 u a0 a1)) (hG1 : ∀ (u : MS) a0 a1 a2, Kwc u0 u → KwE u0 (G.2 u a0 a1 a2)) : KwE u0 (hb_Cm_string_0 N G u v1) := by
  unfold hb_Cm_string_0
  repeat' (first | with_reducible assumption | with_reducible refine Kw_br ?_ ?_ | with_reducible refine Kw_bnd ?_ (fun _ _ _ => ?_) | with_reducible refine Kw_ck ?_ | with_reducible refine Kw_ltm ?_ (fun _ _ => ?_) | with_reducible refine Kw_some ?_ | with_reducible refine Kw_bo (fun _ => ?_) | with_reducible refine Kw_T ?_ (fun _ _ _ => ?_) | with_reducible refine Kw_H ?_ (fun _ _ _ => ?_) (fun _ _ => ?_) | with_reducible exact hG0 _ _ _ (by assumption) | with_reducible exact hG1 _ _ _ _ (by assumption) | with_reducible refine Kw_ltv (fun _ => ?_) | with_reducible refine Kw_I ?_ (by decide) | with_reducible refine Kw_A ?_ (by decide) | with_reducible refine Kw_J ?_ | with_reducible refine Kw_L ?_)
theorem yw_hg_Cm_string  (n : Nat) : (∀ (u : MS) a0 a1, Kwc u0 u → KwE u0 ((hg_Cm_string N n).1 u a0 a1)) ∧ (∀ (u : MS) a0 a1 a2, Kwc u0 u → KwE u0 ((hg_Cm_string N n).2 u a0 a1 a2)) := by
  induction n with
  | zero => exact ⟨fun _ _ _ _ => Kw_none, fun _ _ _ _ _ => Kw_none⟩
  | succ n ih => exact ⟨fun _ _ _ h => yw_hb_Cm_string_12 (N := N) h ih.1 ih.2, fun _ _ _ _ h => yw_hb_Cm_string_50 (N := N) h ih.1 ih.2⟩
theorem yw_hm_Cm_string {v1 : Int32} (h : Kwc u0 u)  : KwE u0 (hm_Cm_string N u v1) := by
  unfold hm_Cm_string
  exact yw_hb_Cm_string_0 h ((yw_hg_Cm_string N).1) ((yw_hg_Cm_string N).2)
theorem yw_hb_Cm_isBound_54 {G : (MS → Int32 → Int32 → Int32 → Int32 → Option (MS × Int32)) × (MS → Int32 → Int32 → Int32 → Option (MS × Int32))} {v2 : Int32} {v5 : Int32} (h : Kwc u0 u) (hG0 : ∀ (u : MS) a0 a1 a2 a3, Kwc u0 u → KwE u0 (G.1 u a0 a1 a2 a3)) (hG1 : ∀ (u : MS) a0 a1 a2, Kwc u0 u → KwE u0 (G.2 u a0 a1 a2)) : KwE u0 (hb_Cm_isBound_54 N G u v2 v5) := by
  unfold hb_Cm_isBound_54
  repeat' (first | with_reducible assumption | with_reducible refine Kw_br ?_ ?_ | with_reducible refine Kw_bnd ?_ (fun _ _ _ => ?_) | with_reducible refine Kw_ck ?_ | with_reducible refine Kw_ltm ?_ (fun _ _ => ?_) | with_reducible refine Kw_some ?_ | with_reducible refine Kw_bo (fun _ => ?_) | with_reducible refine Kw_T ?_ (fun _ _ _ => ?_) | with_reducible refine Kw_H ?_ (fun _ _ _ => ?_) (fun _ _ => ?_) | with_reducible exact hG0 _ _ _ _ _ (by assumption) | with_reducible exact hG1 _ _ _ _ (by assumption) | with_reducible refine Kw_ltv (fun _ => ?_) | with_reducible refine Kw_I ?_ (by decide) | with_reducible refine Kw_A ?_ (by decide) | with_reducible refine Kw_J ?_ | with_reducible refine Kw_L ?_)
theorem yw_hb_Cm_isBound_31 {G : (MS → Int32 → Int32 → Int32 → Int32 → Option (MS × Int32)) × (MS → Int32 → Int32 → Int32 → Option (MS × Int32))} {v2 : Int32} {v4 : Int32} {v5 : Int32} (h : Kwc u0 u) (hG0 : ∀ (u : MS) a0 a1 a2 a3, Kwc u0 u → KwE u0 (G.1 u a0 a1 a2 a3)) (hG1 : ∀ (u : MS) a0 a1 a2, Kwc u0 u → KwE u0 (G.2 u a0 a1 a2)) : KwE u0 (hb_Cm_isBound_31 N G u v2 v4 v5) := by
  unfold hb_Cm_isBound_31
  repeat' (first | with_reducible assumption | with_reducible refine Kw_br ?_ ?_ | with_reducible refine Kw_bnd ?_ (fun _ _ _ => ?_) | with_reducible refine Kw_ck ?_ | with_reducible refine Kw_ltm ?_ (fun _ _ => ?_) | with_reducible refine Kw_some ?_ | with_reducible refine Kw_bo (fun _ => ?_) | with_reducible refine Kw_T ?_ (fun _ _ _ => ?_) | with_reducible refine Kw_H ?_ (fun _ _ _ => ?_) (fun _ _ => ?_) | with_reducible exact yw_hb_Cm_isBound_54 (by assumption) hG0 hG1 | with_reducible exact hG0 _ _ _ _ _ (by assumption) | with_reducible exact hG1 _ _ _ _ (by assumption) | with_reducible refine Kw_ltv (fun _ => ?_) | with_reducible refine Kw_I ?_ (by decide) | with_reducible refine Kw_A ?_ (by decide) | with_reducible refine Kw_J ?_ | with_reducible refine Kw_L ?_)
theorem yw_hb_Cm_isBound_8 {G : (MS → Int32 → Int32 → Int32 → Int32 → Option (MS × Int32)) × (MS → Int32 → Int32 → Int32 → Option (MS × Int32))} {v1 : Int32} {v2 : Int32} {v3 : Int32} {v4 : Int32} (h : Kwc u0 u) (hG0 : ∀ (u : MS) a0 a1 a2 a3, Kwc u0 u → KwE u0 (G.1 u a0 a1 a2 a3)) (hG1 : ∀ (u : MS) a0 a1 a2, Kwc u0 u → KwE u0 (G.2 u a0 a1 a2)) : KwE u0 (hb_Cm_isBound_8 N G u v1 v2 v3 v4) := by
  unfold hb_Cm_isBound_8
  repeat' (first | with_reducible assumption | with_reducible refine Kw_br ?_ ?_ | with_reducible refine Kw_bnd ?_ (fun _ _ _ => ?_) | with_reducible refine Kw_ck ?_ | with_reducible refine Kw_ltm ?_ (fun _ _ => ?_) | with_reducible refine Kw_some ?_ | with_reducible refine Kw_bo (fun _ => ?_) | with_reducible refine Kw_T ?_ (fun _ _ _ => ?_) | with_reducible refine Kw_H ?_ (fun _ _ _ => ?_) (fun _ _ => ?_) | with_reducible exact hG0 _ _ _ _ _ (by assumption) | with_reducible exact hG1 _ _ _ _ (by assumption) | with_reducible refine Kw_ltv (fun _ => ?_) | with_reducible refine Kw_I ?_ (by decide) | with_reducible refine Kw_A ?_ (by decide) | with_reducible refine Kw_J ?_ | with_reducible refine Kw_L ?_)
theorem yw_hb_Cm_isBound_0 {G : (MS → Int32 → Int32 → Int32 → Int32 → Option (MS × Int32)) × (MS → Int32 → Int32 → Int32 → Option (MS × Int32))} {v1 : Int32} {v2 : Int32} {v3 : Int32} (h : Kwc u0 u) (hG0 : ∀ (u : MS) a0 a1 a2 a3, Kwc u0 u → KwE u0 (G.1 u a0 a1 a2 a3)) (hG1 : ∀ (u : MS) a0 a1 a2, Kwc u0 u → KwE u0 (G.2 u a0 a1 a2)) : KwE u0 (hb_Cm_isBound_0 N G u v1 v2 v3) := by
  unfold hb_Cm_isBound_0
  repeat' (first | with_reducible assumption | with_reducible refine Kw_br ?_ ?_ | with_reducible refine Kw_bnd ?_ (fun _ _ _ => ?_) | with_reducible refine Kw_ck ?_ | with_reducible refine Kw_ltm ?_ (fun _ _ => ?_) | with_reducible refine Kw_some ?_ | with_reducible refine Kw_bo (fun _ => ?_) | with_reducible refine Kw_T ?_ (fun _ _ _ => ?_) | with_reducible refine Kw_H ?_ (fun _ _ _ => ?_) (fun _ _ => ?_) | with_reducible exact hG0 _ _ _ _ _ (by assumption) | with_reducible exact hG1 _ _ _ _ (by assumption) | with_reducible refine Kw_ltv (fun _ => ?_) | with_reducible refine Kw_I ?_ (by decide) | with_reducible refine Kw_A ?_ (by decide) | with_reducible refine Kw_J ?_ | with_reducible refine Kw_L ?_)
theorem yw_hg_Cm_isBound  (n : Nat) : (∀ (u : MS) a0 a1 a2 a3, Kwc u0 u → KwE u0 ((hg_Cm_isBound N n).1 u a0 a1 a2 a3)) ∧ (∀ (u : MS) a0 a1 a2, Kwc u0 u → KwE u0 ((hg_Cm_isBound N n).2 u a0 a1 a2)) := by
  induction n with
  | zero => exact ⟨fun _ _ _ _ _ _ => Kw_none, fun _ _ _ _ _ => Kw_none⟩
  | succ n ih => exact ⟨fun _ _ _ _ _ h => yw_hb_Cm_isBound_8 (N := N) h ih.1 ih.2, fun _ _ _ _ h => yw_hb_Cm_isBound_31 (N := N) h ih.1 ih.2⟩
theorem yw_hm_Cm_isBound {v1 : Int32} {v2 : Int32} {v3 : Int32} (h : Kwc u0 u)  : KwE u0 (hm_Cm_isBound N u v1 v2 v3) := by
  unfold hm_Cm_isBound
  exact yw_hb_Cm_isBound_0 h ((yw_hg_Cm_isBound N).1) ((yw_hg_Cm_isBound N).2)
theorem yw_hb_Cm_bind_32 {G : Unit} (h : Kwc u0 u)  : KwE u0 (hb_Cm_bind_32 N G u) := by
  unfold hb_Cm_bind_32
  repeat' (first | with_reducible assumption | with_reducible refine Kw_br ?_ ?_ | with_reducible refine Kw_bnd ?_ (fun _ _ _ => ?_) | with_reducible refine Kw_ck ?_ | with_reducible refine Kw_ltm ?_ (fun _ _ => ?_) | with_reducible refine Kw_some ?_ | with_reducible refine Kw_bo (fun _ => ?_) | with_reducible refine Kw_T ?_ (fun _ _ _ => ?_) | with_reducible refine Kw_H ?_ (fun _ _ _ => ?_) (fun _ _ => ?_) | with_reducible refine Kw_ltv (fun _ => ?_) | with_reducible refine Kw_I ?_ (by decide) | with_reducible refine Kw_A ?_ (by decide) | with_reducible refine Kw_J ?_ | with_reducible refine Kw_L ?_)
theorem yw_hb_Cm_bind_0 {G : Unit} {v1 : Int32} (h : Kwc u0 u)  : KwE u0 (hb_Cm_bind_0 N G u v1) := by
  unfold hb_Cm_bind_0
  repeat' (first | with_reducible assumption | with_reducible refine Kw_br ?_ ?_ | with_reducible refine Kw_bnd ?_ (fun _ _ _ => ?_) | with_reducible refine Kw_ck ?_ | with_reducible refine Kw_ltm ?_ (fun _ _ => ?_) | with_reducible refine Kw_some ?_ | with_reducible refine Kw_bo (fun _ => ?_) | with_reducible refine Kw_T ?_ (fun _ _ _ => ?_) | with_reducible refine Kw_H ?_ (fun _ _ _ => ?_) (fun _ _ => ?_) | with_reducible exact yw_hb_Cm_bind_32 (by assumption) | with_reducible refine Kw_ltv (fun _ => ?_) | with_reducible refine Kw_I ?_ (by decide) | with_reducible refine Kw_A ?_ (by decide) | with_reducible refine Kw_J ?_ | with_reducible refine Kw_L ?_)
theorem yw_hm_Cm_bind {v1 : Int32} (h : Kwc u0 u)  : KwE u0 (hm_Cm_bind N u v1) := by
  unfold hm_Cm_bind
  exact yw_hb_Cm_bind_0 h
theorem yw_hb_Cm_nameInPattern_92 {G : Unit} (h : Kwc u0 u)  : KwE u0 (hb_Cm_nameInPattern_92 N G u) := by
  unfold hb_Cm_nameInPattern_92
  repeat' (first | with_reducible assumption | with_reducible refine Kw_br ?_ ?_ | with_reducible refine Kw_bnd ?_ (fun _ _ _ => ?_) | with_reducible refine Kw_ck ?_ | with_reducible refine Kw_ltm ?_ (fun _ _ => ?_) | with_reducible refine Kw_some ?_ | with_reducible refine Kw_bo (fun _ => ?_) | with_reducible refine Kw_T ?_ (fun _ _ _ => ?_) | with_reducible refine Kw_H ?_ (fun _ _ _ => ?_) (fun _ _ => ?_) | with_reducible refine Kw_ltv (fun _ => ?_) | with_reducible refine Kw_I ?_ (by decide) | with_reducible refine Kw_A ?_ (by decide) | with_reducible refine Kw_J ?_ | with_reducible refine Kw_L ?_)
theorem yw_hb_Cm_nameInPattern_46 {G : Unit} {v1 : Int32} {t1 : Int32} {t2 : Int32} {t3 : Int32} (h : Kwc u0 u)  : KwE u0 (hb_Cm_nameInPattern_46 N G u v1 t1 t2 t3) := by
  unfold hb_Cm_nameInPattern_46
  repeat' (first | with_reducible assumption | with_reducible refine Kw_br ?_ ?_ | with_reducible refine Kw_bnd ?_ (fun _ _ _ => ?_) | with_reducible refine Kw_ck ?_ | with_reducible refine Kw_ltm ?_ (fun _ _ => ?_) | with_reducible refine Kw_some ?_ | with_reducible refine Kw_bo (fun _ => ?_) | with_reducible refine Kw_T ?_ (fun _ _ _ => ?_) | with_reducible refine Kw_H ?_ (fun _ _ _ => ?_) (fun _ _ => ?_) | with_reducible exact yw_hb_Cm_nameInPattern_92 (by assumption) | with_reducible exact yw_hm_Cm_isBound (by assumption) | with_reducible exact yw_hm_Cm_bind (by assumption) | with_reducible exact yw_hm_Co_put (by assumption) | with_reducible refine Kw_ltv (fun _ => ?_) | with_reducible refine Kw_I ?_ (by decide) | with_reducible refine Kw_A ?_ (by decide) | with_reducible refine Kw_J ?_ | with_reducible refine Kw_L ?_)
theorem yw_hb_Cm_nameInPattern_0 {G : Unit} {v1 : Int32} {v2 : Int32} (h : Kwc u0 u)  : KwE u0 (hb_Cm_nameInPattern_0 N G u v1 v2) := by
  unfold hb_Cm_nameInPattern_0
  repeat' (first | with_reducible assumption | with_reducible refine Kw_br ?_ ?_ | with_reducible refine Kw_bnd ?_ (fun _ _ _ => ?_) | with_reducible refine Kw_ck ?_ | with_reducible refine Kw_ltm ?_ (fun _ _ => ?_) | with_reducible refine Kw_some ?_ | with_reducible refine Kw_bo (fun _ => ?_) | with_reducible refine Kw_T ?_ (fun _ _ _ => ?_) | with_reducible refine Kw_H ?_ (fun _ _ _ => ?_) (fun _ _ => ?_) | with_reducible exact yw_hb_Cm_nameInPattern_46 (by assumption) | with_reducible exact yw_hb_Cm_nameInPattern_92 (by assumption) | with_reducible exact yw_hm_Co_put (by assumption) | with_reducible refine Kw_ltv (fun _ => ?_) | with_reducible refine Kw_I ?_ (by decide) | with_reducible refine Kw_A ?_ (by decide) | with_reducible refine Kw_J ?_ | with_reducible refine Kw_L ?_)
theorem yw_hm_Cm_nameInPattern {v1 : Int32} {v2 : Int32} (h : Kwc u0 u)  : KwE u0 (hm_Cm_nameInPattern N u v1 v2) := by
  unfold hm_Cm_nameInPattern
  exact yw_hb_Cm_nameInPattern_0 h
theorem yw_hb_Cm_listPattern_84 {S : SF_Cm_listPattern} {G : (MS → Int32 → Int32 → Option (MS × Unit))} (h : Kwc u0 u) (hS0 : ∀ (u : MS) a0, Kwc u0 u → KwE u0 (S.1 u a0)) (hS1 : ∀ (u : MS) a0, Kwc u0 u → KwE u0 (S.2 u a0)) (hG0 : ∀ (u : MS) a0 a1, Kwc u0 u → KwE u0 (G u a0 a1)) : KwE u0 (hb_Cm_listPattern_84 N S G u) := by
  unfold hb_Cm_listPattern_84
  repeat' (first | with_reducible assumption | with_reducible refine Kw_br ?_ ?_ | with_reducible refine Kw_bnd ?_ (fun _ _ _ => ?_) | with_reducible refine Kw_ck ?_ | with_reducible refine Kw_ltm ?_ (fun _ _ => ?_) | with_reducible refine Kw_some ?_ | with_reducible refine Kw_bo (fun _ => ?_) | with_reducible refine Kw_T ?_ (fun _ _ _ => ?_) | with_reducible refine Kw_H ?_ (fun _ _ _ => ?_) (fun _ _ => ?_) | with_reducible exact hS0 _ _ (by assumption) | with_reducible exact hS1 _ _ (by assumption) | with_reducible exact hG0 _ _ _ (by assumption) | with_reducible refine Kw_ltv (fun _ => ?_) | with_reducible refine Kw_I ?_ (by decide) | with_reducible refine Kw_A ?_ (by decide) | with_reducible refine Kw_J ?_ | with_reducible refine Kw_L ?_)
theorem yw_hb_Cm_listPattern_10 {S : SF_Cm_listPattern} {G : (MS → Int32 → Int32 → Option (MS × Unit))} {v1 : Int32} {v2 : Int32} (h : Kwc u0 u) (hS0 : ∀ (u : MS) a0, Kwc u0 u → KwE u0 (S.1 u a0)) (hS1 : ∀ (u : MS) a0, Kwc u0 u → KwE u0 (S.2 u a0)) (hG0 : ∀ (u : MS) a0 a1, Kwc u0 u → KwE u0 (G u a0 a1)) : KwE u0 (hb_Cm_listPattern_10 N S G u v1 v2) := by
  unfold hb_Cm_listPattern_10
  repeat' (first | with_reducible assumption | with_reducible refine Kw_br ?_ ?_ | with_reducible refine Kw_bnd ?_ (fun _ _ _ => ?_) | with_reducible refine Kw_ck ?_ | with_reducible refine Kw_ltm ?_ (fun _ _ => ?_) | with_reducible refine Kw_some ?_ | with_reducible refine Kw_bo (fun _ => ?_) | with_reducible refine Kw_T ?_ (fun _ _ _ => ?_) | with_reducible refine Kw_H ?_ (fun _ _ _ => ?_) (fun _ _ => ?_) | with_reducible exact yw_hb_Cm_listPattern_84 (by assumption) hS0 hS1 hG0 | with_reducible exact yw_hm_Cm_term (by assumption) | with_reducible exact yw_hm_Co_put (by assumption) | with_reducible exact hS0 _ _ (by assumption) | with_reducible exact hS1 _ _ (by assumption) | with_reducible exact hG0 _ _ _ (by assumption) | with_reducible refine Kw_ltv (fun _ => ?_) | with_reducible refine Kw_I ?_ (by decide) | with_reducible refine Kw_A ?_ (by decide) | with_reducible refine Kw_J ?_ | with_reducible refine Kw_L ?_)
theorem yw_hb_Cm_listPattern_0 {S : SF_Cm_listPattern} {G : (MS → Int32 → Int32 → Option (MS × Unit))} {v1 : Int32} (h : Kwc u0 u) (hS0 : ∀ (u : MS) a0, Kwc u0 u → KwE u0 (S.1 u a0)) (hS1 : ∀ (u : MS) a0, Kwc u0 u → KwE u0 (S.2 u a0)) (hG0 : ∀ (u : MS) a0 a1, Kwc u0 u → KwE u0 (G u a0 a1)) : KwE u0 (hb_Cm_listPattern_0 N S G u v1) := by
  unfold hb_Cm_listPattern_0
  repeat' (first | with_reducible assumption | with_reducible refine Kw_br ?_ ?_ | with_reducible refine Kw_bnd ?_ (fun _ _ _ => ?_) | with_reducible refine Kw_ck ?_ | with_reducible refine Kw_ltm ?_ (fun _ _ => ?_) | with_reducible refine Kw_some ?_ | with_reducible refine Kw_bo (fun _ => ?_) | with_reducible refine Kw_T ?_ (fun _ _ _ => ?_) | with_reducible refine Kw_H ?_ (fun _ _ _ => ?_) (fun _ _ => ?_) | with_reducible exact hS0 _ _ (by assumption) | with_reducible exact hS1 _ _ (by assumption) | with_reducible exact hG0 _ _ _ (by assumption) | with_reducible refine Kw_ltv (fun _ => ?_) | with_reducible refine Kw_I ?_ (by decide) | with_reducible refine Kw_A ?_ (by decide) | with_reducible refine Kw_J ?_ | with_reducible refine Kw_L ?_)
theorem yw_hg_Cm_listPattern {S : SF_Cm_listPattern} (hS0 : ∀ (u : MS) a0, Kwc u0 u → KwE u0 (S.1 u a0)) (hS1 : ∀ (u : MS) a0, Kwc u0 u → KwE u0 (S.2 u a0)) (n : Nat) : (∀ (u : MS) a0 a1, Kwc u0 u → KwE u0 ((hg_Cm_listPattern N S n) u a0 a1)) := by
  induction n with
  | zero => exact fun _ _ _ _ => Kw_none
  | succ n ih => exact fun _ _ _ h => yw_hb_Cm_listPattern_10 (N := N) h hS0 hS1 ih
theorem yw_hm_Cm_listPattern {S : SF_Cm_listPattern} {v1 : Int32} (h : Kwc u0 u) (hS0 : ∀ (u : MS) a0, Kwc u0 u → KwE u0 (S.1 u a0)) (hS1 : ∀ (u : MS) a0, Kwc u0 u → KwE u0 (S.2 u a0)) : KwE u0 (hm_Cm_listPattern N S u v1) := by
  unfold hm_Cm_listPattern
  exact yw_hb_Cm_listPattern_0 h hS0 hS1 ((yw_hg_Cm_listPattern (N := N) hS0 hS1 N))
theorem yw_hb_Cm_pattern_298 {S : SF_Cm_listPattern} {G : (MS → Int32 → Option (MS × Unit))} (h : Kwc u0 u) (hS0 : ∀ (u : MS) a0, Kwc u0 u → KwE u0 (S.1 u a0)) (hS1 : ∀ (u : MS) a0, Kwc u0 u → KwE u0 (S.2 u a0)) (hG0 : ∀ (u : MS) a0, Kwc u0 u → KwE u0 (G u a0)) : KwE u0 (hb_Cm_pattern_298 N S G u) := by
  unfold hb_Cm_pattern_298
  repeat' (first | with_reducible assumption | with_reducible refine Kw_br ?_ ?_ | with_reducible refine Kw_bnd ?_ (fun _ _ _ => ?_) | with_reducible refine Kw_ck ?_ | with_reducible refine Kw_ltm ?_ (fun _ _ => ?_) | with_reducible refine Kw_some ?_ | with_reducible refine Kw_bo (fun _ => ?_) | with_reducible refine Kw_T ?_ (fun _ _ _ => ?_) | with_reducible refine Kw_H ?_ (fun _ _ _ => ?_) (fun _ _ => ?_) | with_reducible exact hS0 _ _ (by assumption) | with_reducible exact hS1 _ _ (by assumption) | with_reducible exact hG0 _ _ (by assumption) | with_reducible refine Kw_ltv (fun _ => ?_) | with_reducible refine Kw_I ?_ (by decide) | with_reducible refine Kw_A ?_ (by decide) | with_reducible refine Kw_J ?_ | with_reducible refine Kw_L ?_)
theorem yw_hb_Cm_pattern_268 {S : SF_Cm_listPattern} {G : (MS → Int32 → Option (MS × Unit))} {v2 : Int32} (h : Kwc u0 u) (hS0 : ∀ (u : MS) a0, Kwc u0 u → KwE u0 (S.1 u a0)) (hS1 : ∀ (u : MS) a0, Kwc u0 u → KwE u0 (S.2 u a0)) (hG0 : ∀ (u : MS) a0, Kwc u0 u → KwE u0 (G u a0)) : KwE u0 (hb_Cm_pattern_268 N S G u v2) := by
  unfold hb_Cm_pattern_268
  repeat' (first | with_reducible assumption | with_reducible refine Kw_br ?_ ?_ | with_reducible refine Kw_bnd ?_ (fun _ _ _ => ?_) | with_reducible refine Kw_ck ?_ | with_reducible refine Kw_ltm ?_ (fun _ _ => ?_) | with_reducible refine Kw_some ?_ | with_reducible refine Kw_bo (fun _ => ?_) | with_reducible refine Kw_T ?_ (fun _ _ _ => ?_) | with_reducible refine Kw_H ?_ (fun _ _ _ => ?_) (fun _ _ => ?_) | with_reducible exact yw_hb_Cm_pattern_298 (by assumption) hS0 hS1 hG0 | with_reducible exact hS0 _ _ (by assumption) | with_reducible exact hS1 _ _ (by assumption) | with_reducible exact hG0 _ _ (by assumption) | with_reducible refine Kw_ltv (fun _ => ?_) | with_reducible refine Kw_I ?_ (by decide) | with_reducible refine Kw_A ?_ (by decide) | with_reducible refine Kw_J ?_ | with_reducible refine Kw_L ?_)
theorem yw_hb_Cm_pattern_0 {S : SF_Cm_listPattern} {G : (MS → Int32 → Option (MS × Unit))} {v1 : Int32} (h : Kwc u0 u) (hS0 : ∀ (u : MS) a0, Kwc u0 u → KwE u0 (S.1 u a0)) (hS1 : ∀ (u : MS) a0, Kwc u0 u → KwE u0 (S.2 u a0)) (hG0 : ∀ (u : MS) a0, Kwc u0 u → KwE u0 (G u a0)) : KwE u0 (hb_Cm_pattern_0 N S G u v1) := by
  unfold hb_Cm_pattern_0
  repeat' (first | with_reducible assumption | with_reducible refine Kw_br ?_ ?_ | with_reducible refine Kw_bnd ?_ (fun _ _ _ => ?_) | with_reducible refine Kw_ck ?_ | with_reducible refine Kw_ltm ?_ (fun _ _ => ?_) | with_reducible refine Kw_some ?_ | with_reducible refine Kw_bo (fun _ => ?_) | with_reducible refine Kw_T ?_ (fun _ _ _ => ?_) | with_reducible refine Kw_H ?_ (fun _ _ _ => ?_) (fun _ _ => ?_) | with_reducible exact yw_hb_Cm_pattern_298 (by assumption) hS0 hS1 hG0 | with_reducible exact yw_hm_Cm_nameInPattern (by assumption) | with_reducible exact yw_hm_Cm_string (by assumption) | with_reducible exact yw_hm_Cm_term (by assumption) | with_reducible exact yw_hm_Co_put (by assumption) | with_reducible exact hS0 _ _ (by assumption) | with_reducible exact hS1 _ _ (by assumption) | with_reducible exact hG0 _ _ (by assumption) | with_reducible refine Kw_ltv (fun _ => ?_) | with_reducible refine Kw_I ?_ (by decide) | with_reducible refine Kw_A ?_ (by decide) | with_reducible refine Kw_J ?_ | with_reducible refine Kw_L ?_)
theorem yw_hg_Cm_pattern {S : SF_Cm_listPattern} (hS0 : ∀ (u : MS) a0, Kwc u0 u → KwE u0 (S.1 u a0)) (hS1 : ∀ (u : MS) a0, Kwc u0 u → KwE u0 (S.2 u a0)) (n : Nat) : (∀ (u : MS) a0, Kwc u0 u → KwE u0 ((hg_Cm_pattern N S n) u a0)) := by
  induction n with
  | zero => exact fun _ _ _ => Kw_none
  | succ n ih => exact fun _ _ h => yw_hb_Cm_pattern_268 (N := N) h hS0 hS1 ih
theorem yw_hm_Cm_pattern {S : SF_Cm_listPattern} {v1 : Int32} (h : Kwc u0 u) (hS0 : ∀ (u : MS) a0, Kwc u0 u → KwE u0 (S.1 u a0)) (hS1 : ∀ (u : MS) a0, Kwc u0 u → KwE u0 (S.2 u a0)) : KwE u0 (hm_Cm_pattern N S u v1) := by
  unfold hm_Cm_pattern
  exact yw_hb_Cm_pattern_0 h hS0 hS1 ((yw_hg_Cm_pattern (N := N) hS0 hS1 N))
theorem yw_hrc_Cm_listPattern  (n : Nat) : (∀ (u : MS) a0, Kwc u0 u → KwE u0 ((hrc_Cm_listPattern N n).1 u a0)) ∧ (∀ (u : MS) a0, Kwc u0 u → KwE u0 ((hrc_Cm_listPattern N n).2 u a0)) := by
  induction n with
  | zero => exact ⟨fun _ _ _ => Kw_none, fun _ _ _ => Kw_none⟩
  | succ n ih => exact ⟨fun _ _ h => yw_hm_Cm_listPattern (N := N) h ih.1 ih.2, fun _ _ h => yw_hm_Cm_pattern (N := N) h ih.1 ih.2⟩
theorem yw_hr_Cm_pattern {v1 : Int32} (h : Kwc u0 u) : KwE u0 (hr_Cm_pattern N u v1) := by
  unfold hr_Cm_pattern
  exact (yw_hrc_Cm_listPattern (N := N) 300).2 _ _ h
end
