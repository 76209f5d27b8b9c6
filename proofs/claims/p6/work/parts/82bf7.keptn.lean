set_option maxRecDepth 100000
def Knc (u w : MS) : Prop := (∀ k, k < 440 ∨ 460 ≤ k → w.1 k = u.1 k) ∧ ∀ k, k < 22 ∨ 36 ≤ k → w.2.2.1 k = u.2.2.1 k
def KnE {α : Type} (u : MS) (o : Option (MS × α)) : Prop := ∀ w r, o = some (w, r) → Knc u w
section
variable {α β : Type} {u0 u w : MS} {k : Nat}
theorem Kn_none : KnE u0 (none : Option (MS × α)) := fun _ _ e => by cases e
theorem Kn_some {r : α} (h : Knc u0 w) : KnE u0 (some (w, r)) := fun _ _ e => by injection e with e; injection e with e1 _; exact e1 ▸ h
theorem Kn_br {b : Bool} {p q : Option (MS × α)} (h1 : KnE u0 p) (h2 : KnE u0 q) : KnE u0 (br b p q) := by cases b <;> assumption
theorem Kn_ck {b : Bool} {p : Option (MS × α)} (h1 : KnE u0 p) : KnE u0 (ck b p) := by
  cases b
  · exact Kn_none
  · exact h1
theorem Kn_bo {o : Option β} {f : β → Option (MS × α)} (h : ∀ j, KnE u0 (f j)) : KnE u0 (bo o f) := by
  cases o with
  | none => exact Kn_none
  | some j => exact h j
theorem Kn_bnd {o : Option (MS × β)} {f : MS → β → Option (MS × α)} (h1 : KnE u0 o) (h2 : ∀ w r, Knc u0 w → KnE u0 (f w r)) : KnE u0 (bnd o f) := by
  cases o with
  | none => exact Kn_none
  | some x => exact h2 x.1 x.2 (h1 x.1 x.2 rfl)
theorem Kn_T {o : Option (MS × (β ⊕ Nat))} {f : MS → β → Option (MS × (α ⊕ Nat))} (h1 : KnE u0 o) (h2 : ∀ w r, Knc u0 w → KnE u0 (f w r)) : KnE u0 (bTm o f) := by
  cases o with
  | none => exact Kn_none
  | some x =>
    obtain ⟨x, z⟩ := x
    cases z with
    | inl v => exact h2 x v (h1 x _ rfl)
    | inr k => exact Kn_some (h1 x _ rfl)
theorem Kn_H {o : Option (MS × (β ⊕ Nat))} {f : MS → β → Option (MS × α)} {g : MS → Option (MS × α)} (h1 : KnE u0 o) (h2 : ∀ w r, Knc u0 w → KnE u0 (f w r)) (h3 : ∀ w, Knc u0 w → KnE u0 (g w)) : KnE u0 (bHm o f g) := by
  cases o with
  | none => exact Kn_none
  | some x =>
    obtain ⟨x, z⟩ := x
    cases z with
    | inl v => exact h2 x v (h1 x _ rfl)
    | inr k =>
      show KnE u0 (if k = 3 then g x else none)
      split
      · exact h3 x (h1 x _ rfl)
      · exact Kn_none
theorem Kn_ltm {x : MS} {f : MS → Option (MS × α)} (h1 : Knc u0 x) (h2 : ∀ w, Knc u0 w → KnE u0 (f w)) : KnE u0 (lt x f) := h2 x h1
theorem Kn_ltv {x : β} {f : β → Option (MS × α)} (h2 : ∀ y, KnE u0 (f y)) : KnE u0 (lt x f) := h2 x
theorem Kn_I {v : Int32} (h : Knc u0 u) (hk : 440 ≤ k ∧ k < 460) : Knc u0 (upI u k v) := ⟨fun j hj => (if_neg (by omega)).trans (h.1 j hj), h.2⟩
theorem Kn_L {v : Int64} (h : Knc u0 u) : Knc u0 (upL u k v) := h
theorem Kn_J {v : Nat → Int64} (h : Knc u0 u) : Knc u0 (upJ u k v) := h
theorem Kn_A {v : Nat → Int32} (h : Knc u0 u) (hk : 22 ≤ k ∧ k < 36) : Knc u0 (upA u k v) := ⟨h.1, fun j hj => (if_neg (by omega)).trans (h.2 j hj)⟩
theorem Kn_rf : Knc u u := ⟨fun _ _ => rfl, fun _ _ => rfl⟩
end
section
variable {u0 u : MS} {N : Nat}
theorem yn_hb_To_signAt_26 {G : Unit} {t0 : Int32} (h : Knc u0 u)  : KnE u0 (hb_To_signAt_26 N G u t0) := by
  unfold hb_To_signAt_26
  repeat' (first | with_reducible assumption | with_reducible refine Kn_br ?_ ?_ | with_reducible refine Kn_bnd ?_ (fun _ _ _ => ?_) | with_reducible refine Kn_ck ?_ | with_reducible refine Kn_ltm ?_ (fun _ _ => ?_) | with_reducible refine Kn_some ?_ | with_reducible refine Kn_bo (fun _ => ?_) | with_reducible refine Kn_T ?_ (fun _ _ _ => ?_) | with_reducible refine Kn_H ?_ (fun _ _ _ => ?_) (fun _ _ => ?_) | with_reducible refine Kn_ltv (fun _ => ?_) | with_reducible refine Kn_I ?_ (by decide) | with_reducible refine Kn_A ?_ (by decide) | with_reducible refine Kn_J ?_ | with_reducible refine Kn_L ?_)
theorem yn_hb_To_signAt_12 {G : Unit} (h : Knc u0 u)  : KnE u0 (hb_To_signAt_12 N G u) := by
  unfold hb_To_signAt_12
  repeat' (first | with_reducible assumption | with_reducible refine Kn_br ?_ ?_ | with_reducible refine Kn_bnd ?_ (fun _ _ _ => ?_) | with_reducible refine Kn_ck ?_ | with_reducible refine Kn_ltm ?_ (fun _ _ => ?_) | with_reducible refine Kn_some ?_ | with_reducible refine Kn_bo (fun _ => ?_) | with_reducible refine Kn_T ?_ (fun _ _ _ => ?_) | with_reducible refine Kn_H ?_ (fun _ _ _ => ?_) (fun _ _ => ?_) | with_reducible exact yn_hb_To_signAt_26 (by assumption) | with_reducible refine Kn_ltv (fun _ => ?_) | with_reducible refine Kn_I ?_ (by decide) | with_reducible refine Kn_A ?_ (by decide) | with_reducible refine Kn_J ?_ | with_reducible refine Kn_L ?_)
theorem yn_hb_To_signAt_0 {G : Unit} {v1 : Int32} (h : Knc u0 u)  : KnE u0 (hb_To_signAt_0 N G u v1) := by
  unfold hb_To_signAt_0
  repeat' (first | with_reducible assumption | with_reducible refine Kn_br ?_ ?_ | with_reducible refine Kn_bnd ?_ (fun _ _ _ => ?_) | with_reducible refine Kn_ck ?_ | with_reducible refine Kn_ltm ?_ (fun _ _ => ?_) | with_reducible refine Kn_some ?_ | with_reducible refine Kn_bo (fun _ => ?_) | with_reducible refine Kn_T ?_ (fun _ _ _ => ?_) | with_reducible refine Kn_H ?_ (fun _ _ _ => ?_) (fun _ _ => ?_) | with_reducible exact yn_hb_To_signAt_12 (by assumption) | with_reducible exact yn_hb_To_signAt_26 (by assumption) | with_reducible refine Kn_ltv (fun _ => ?_) | with_reducible refine Kn_I ?_ (by decide) | with_reducible refine Kn_A ?_ (by decide) | with_reducible refine Kn_J ?_ | with_reducible refine Kn_L ?_)
theorem yn_hm_To_signAt {v1 : Int32} (h : Knc u0 u)  : KnE u0 (hm_To_signAt N u v1) := by
  unfold hm_To_signAt
  exact yn_hb_To_signAt_0 h
theorem yn_hb_Wo_isSame_12 {G : (MS → Nat → Int32 → Nat → Int32 → Int32 → Int32 → Option (MS × Int32))} {v0 : Nat} {v1 : Int32} {v2 : Nat} {v3 : Int32} {v4 : Int32} {v5 : Int32} (h : Knc u0 u) (hG0 : ∀ (u : MS) a0 a1 a2 a3 a4 a5, Knc u0 u → KnE u0 (G u a0 a1 a2 a3 a4 a5)) : KnE u0 (hb_Wo_isSame_12 N G u v0 v1 v2 v3 v4 v5) := by
  unfold hb_Wo_isSame_12
  repeat' (first | with_reducible assumption | with_reducible refine Kn_br ?_ ?_ | with_reducible refine Kn_bnd ?_ (fun _ _ _ => ?_) | with_reducible refine Kn_ck ?_ | with_reducible refine Kn_ltm ?_ (fun _ _ => ?_) | with_reducible refine Kn_some ?_ | with_reducible refine Kn_bo (fun _ => ?_) | with_reducible refine Kn_T ?_ (fun _ _ _ => ?_) | with_reducible refine Kn_H ?_ (fun _ _ _ => ?_) (fun _ _ => ?_) | with_reducible exact hG0 _ _ _ _ _ _ _ (by assumption) | with_reducible refine Kn_ltv (fun _ => ?_) | with_reducible refine Kn_I ?_ (by decide) | with_reducible refine Kn_A ?_ (by decide) | with_reducible refine Kn_J ?_ | with_reducible refine Kn_L ?_)
theorem yn_hb_Wo_isSame_0 {G : (MS → Nat → Int32 → Nat → Int32 → Int32 → Int32 → Option (MS × Int32))} {v0 : Nat} {v1 : Int32} {v2 : Nat} {v3 : Int32} (h : Knc u0 u) (hG0 : ∀ (u : MS) a0 a1 a2 a3 a4 a5, Knc u0 u → KnE u0 (G u a0 a1 a2 a3 a4 a5)) : KnE u0 (hb_Wo_isSame_0 N G u v0 v1 v2 v3) := by
  unfold hb_Wo_isSame_0
  repeat' (first | with_reducible assumption | with_reducible refine Kn_br ?_ ?_ | with_reducible refine Kn_bnd ?_ (fun _ _ _ => ?_) | with_reducible refine Kn_ck ?_ | with_reducible refine Kn_ltm ?_ (fun _ _ => ?_) | with_reducible refine Kn_some ?_ | with_reducible refine Kn_bo (fun _ => ?_) | with_reducible refine Kn_T ?_ (fun _ _ _ => ?_) | with_reducible refine Kn_H ?_ (fun _ _ _ => ?_) (fun _ _ => ?_) | with_reducible exact hG0 _ _ _ _ _ _ _ (by assumption) | with_reducible refine Kn_ltv (fun _ => ?_) | with_reducible refine Kn_I ?_ (by decide) | with_reducible refine Kn_A ?_ (by decide) | with_reducible refine Kn_J ?_ | with_reducible refine Kn_L ?_)
theorem yn_hg_Wo_isSame  (n : Nat) : (∀ (u : MS) a0 a1 a2 a3 a4 a5, Knc u0 u → KnE u0 ((hg_Wo_isSame N n) u a0 a1 a2 a3 a4 a5)) := by
  induction n with
  | zero => exact fun _ _ _ _ _ _ _ _ => Kn_none
  | succ n ih => exact fun _ _ _ _ _ _ _ h => yn_hb_Wo_isSame_12 (N := N) h ih
theorem yn_hm_Wo_isSame {v0 : Nat} {v1 : Int32} {v2 : Nat} {v3 : Int32} (h : Knc u0 u)  : KnE u0 (hm_Wo_isSame N u v0 v1 v2 v3) := by
  unfold hm_Wo_isSame
  exact yn_hb_Wo_isSame_0 h ((yn_hg_Wo_isSame N))
theorem yn_hb_Wo_seek_47 {G : (MS → Nat → Nat → Int32 → Int32 → Int32 → Option (MS × Int32))} {v0 : Nat} {v1 : Nat} {v2 : Int32} {v3 : Int32} {v4 : Int32} (h : Knc u0 u) (hG0 : ∀ (u : MS) a0 a1 a2 a3 a4, Knc u0 u → KnE u0 (G u a0 a1 a2 a3 a4)) : KnE u0 (hb_Wo_seek_47 N G u v0 v1 v2 v3 v4) := by
  unfold hb_Wo_seek_47
  repeat' (first | with_reducible assumption | with_reducible refine Kn_br ?_ ?_ | with_reducible refine Kn_bnd ?_ (fun _ _ _ => ?_) | with_reducible refine Kn_ck ?_ | with_reducible refine Kn_ltm ?_ (fun _ _ => ?_) | with_reducible refine Kn_some ?_ | with_reducible refine Kn_bo (fun _ => ?_) | with_reducible refine Kn_T ?_ (fun _ _ _ => ?_) | with_reducible refine Kn_H ?_ (fun _ _ _ => ?_) (fun _ _ => ?_) | with_reducible exact hG0 _ _ _ _ _ _ (by assumption) | with_reducible refine Kn_ltv (fun _ => ?_) | with_reducible refine Kn_I ?_ (by decide) | with_reducible refine Kn_A ?_ (by decide) | with_reducible refine Kn_J ?_ | with_reducible refine Kn_L ?_)
theorem yn_hb_Wo_seek_3 {G : (MS → Nat → Nat → Int32 → Int32 → Int32 → Option (MS × Int32))} {v0 : Nat} {v1 : Nat} {v2 : Int32} {v3 : Int32} {v4 : Int32} (h : Knc u0 u) (hG0 : ∀ (u : MS) a0 a1 a2 a3 a4, Knc u0 u → KnE u0 (G u a0 a1 a2 a3 a4)) : KnE u0 (hb_Wo_seek_3 N G u v0 v1 v2 v3 v4) := by
  unfold hb_Wo_seek_3
  repeat' (first | with_reducible assumption | with_reducible refine Kn_br ?_ ?_ | with_reducible refine Kn_bnd ?_ (fun _ _ _ => ?_) | with_reducible refine Kn_ck ?_ | with_reducible refine Kn_ltm ?_ (fun _ _ => ?_) | with_reducible refine Kn_some ?_ | with_reducible refine Kn_bo (fun _ => ?_) | with_reducible refine Kn_T ?_ (fun _ _ _ => ?_) | with_reducible refine Kn_H ?_ (fun _ _ _ => ?_) (fun _ _ => ?_) | with_reducible exact yn_hb_Wo_seek_47 (by assumption) hG0 | with_reducible exact yn_hm_Wo_isSame (by assumption) | with_reducible exact hG0 _ _ _ _ _ _ (by assumption) | with_reducible refine Kn_ltv (fun _ => ?_) | with_reducible refine Kn_I ?_ (by decide) | with_reducible refine Kn_A ?_ (by decide) | with_reducible refine Kn_J ?_ | with_reducible refine Kn_L ?_)
theorem yn_hb_Wo_seek_0 {G : (MS → Nat → Nat → Int32 → Int32 → Int32 → Option (MS × Int32))} {v0 : Nat} {v1 : Nat} {v2 : Int32} {v3 : Int32} (h : Knc u0 u) (hG0 : ∀ (u : MS) a0 a1 a2 a3 a4, Knc u0 u → KnE u0 (G u a0 a1 a2 a3 a4)) : KnE u0 (hb_Wo_seek_0 N G u v0 v1 v2 v3) := by
  unfold hb_Wo_seek_0
  repeat' (first | with_reducible assumption | with_reducible refine Kn_br ?_ ?_ | with_reducible refine Kn_bnd ?_ (fun _ _ _ => ?_) | with_reducible refine Kn_ck ?_ | with_reducible refine Kn_ltm ?_ (fun _ _ => ?_) | with_reducible refine Kn_some ?_ | with_reducible refine Kn_bo (fun _ => ?_) | with_reducible refine Kn_T ?_ (fun _ _ _ => ?_) | with_reducible refine Kn_H ?_ (fun _ _ _ => ?_) (fun _ _ => ?_) | with_reducible exact hG0 _ _ _ _ _ _ (by assumption) | with_reducible refine Kn_ltv (fun _ => ?_) | with_reducible refine Kn_I ?_ (by decide) | with_reducible refine Kn_A ?_ (by decide) | with_reducible refine Kn_J ?_ | with_reducible refine Kn_L ?_)
theorem yn_hg_Wo_seek  (n : Nat) : (∀ (u : MS) a0 a1 a2 a3 a4, Knc u0 u → KnE u0 ((hg_Wo_seek N n) u a0 a1 a2 a3 a4)) := by
  induction n with
  | zero => exact fun _ _ _ _ _ _ _ => Kn_none
  | succ n ih => exact fun _ _ _ _ _ _ h => yn_hb_Wo_seek_3 (N := N) h ih
theorem yn_hm_Wo_seek {v0 : Nat} {v1 : Nat} {v2 : Int32} {v3 : Int32} (h : Knc u0 u)  : KnE u0 (hm_Wo_seek N u v0 v1 v2 v3) := by
  unfold hm_Wo_seek
  exact yn_hb_Wo_seek_0 h ((yn_hg_Wo_seek N))
theorem yn_hb_Tr_length_4 {G : (MS → Int32 → Int32 → Option (MS × Int32))} {v2 : Int32} {v3 : Int32} (h : Knc u0 u) (hG0 : ∀ (u : MS) a0 a1, Knc u0 u → KnE u0 (G u a0 a1)) : KnE u0 (hb_Tr_length_4 N G u v2 v3) := by
  unfold hb_Tr_length_4
  repeat' (first | with_reducible assumption | with_reducible refine Kn_br ?_ ?_ | with_reducible refine Kn_bnd ?_ (fun _ _ _ => ?_) | with_reducible refine Kn_ck ?_ | with_reducible refine Kn_ltm ?_ (fun _ _ => ?_) | with_reducible refine Kn_some ?_ | with_reducible refine Kn_bo (fun _ => ?_) | with_reducible refine Kn_T ?_ (fun _ _ _ => ?_) | with_reducible refine Kn_H ?_ (fun _ _ _ => ?_) (fun _ _ => ?_) | with_reducible exact hG0 _ _ _ (by assumption) | with_reducible refine Kn_ltv (fun _ => ?_) | with_reducible refine Kn_I ?_ (by decide) | with_reducible refine Kn_A ?_ (by decide) | with_reducible refine Kn_J ?_ | with_reducible refine Kn_L ?_)
theorem yn_hb_Tr_length_0 {G : (MS → Int32 → Int32 → Option (MS × Int32))} {v1 : Int32} (h : Knc u0 u) (hG0 : ∀ (u : MS) a0 a1, Knc u0 u → KnE u0 (G u a0 a1)) : KnE u0 (hb_Tr_length_0 N G u v1) := by
  unfold hb_Tr_length_0
  repeat' (first | with_reducible assumption | with_reducible refine Kn_br ?_ ?_ | with_reducible refine Kn_bnd ?_ (fun _ _ _ => ?_) | with_reducible refine Kn_ck ?_ | with_reducible refine Kn_ltm ?_ (fun _ _ => ?_) | with_reducible refine Kn_some ?_ | with_reducible refine Kn_bo (fun _ => ?_) | with_reducible refine Kn_T ?_ (fun _ _ _ => ?_) | with_reducible refine Kn_H ?_ (fun _ _ _ => ?_) (fun _ _ => ?_) | with_reducible exact hG0 _ _ _ (by assumption) | with_reducible refine Kn_ltv (fun _ => ?_) | with_reducible refine Kn_I ?_ (by decide) | with_reducible refine Kn_A ?_ (by decide) | with_reducible refine Kn_J ?_ | with_reducible refine Kn_L ?_)
theorem yn_hg_Tr_length  (n : Nat) : (∀ (u : MS) a0 a1, Knc u0 u → KnE u0 ((hg_Tr_length N n) u a0 a1)) := by
  induction n with
  | zero => exact fun _ _ _ _ => Kn_none
  | succ n ih => exact fun _ _ _ h => yn_hb_Tr_length_4 (N := N) h ih
theorem yn_hm_Tr_length {v1 : Int32} (h : Knc u0 u)  : KnE u0 (hm_Tr_length N u v1) := by
  unfold hm_Tr_length
  exact yn_hb_Tr_length_0 h ((yn_hg_Tr_length N))
theorem yn_hb_Co_seek_32 {G : (MS → Int32 → Int32 → Int32 → Option (MS × Int32))} {v1 : Int32} {v2 : Int32} {v3 : Int32} (h : Knc u0 u) (hG0 : ∀ (u : MS) a0 a1 a2, Knc u0 u → KnE u0 (G u a0 a1 a2)) : KnE u0 (hb_Co_seek_32 N G u v1 v2 v3) := by
  unfold hb_Co_seek_32
  repeat' (first | with_reducible assumption | with_reducible refine Kn_br ?_ ?_ | with_reducible refine Kn_bnd ?_ (fun _ _ _ => ?_) | with_reducible refine Kn_ck ?_ | with_reducible refine Kn_ltm ?_ (fun _ _ => ?_) | with_reducible refine Kn_some ?_ | with_reducible refine Kn_bo (fun _ => ?_) | with_reducible refine Kn_T ?_ (fun _ _ _ => ?_) | with_reducible refine Kn_H ?_ (fun _ _ _ => ?_) (fun _ _ => ?_) | with_reducible exact hG0 _ _ _ _ (by assumption) | with_reducible refine Kn_ltv (fun _ => ?_) | with_reducible refine Kn_I ?_ (by decide) | with_reducible refine Kn_A ?_ (by decide) | with_reducible refine Kn_J ?_ | with_reducible refine Kn_L ?_)
theorem yn_hb_Co_seek_2 {G : (MS → Int32 → Int32 → Int32 → Option (MS × Int32))} {v1 : Int32} {v2 : Int32} {v3 : Int32} (h : Knc u0 u) (hG0 : ∀ (u : MS) a0 a1 a2, Knc u0 u → KnE u0 (G u a0 a1 a2)) : KnE u0 (hb_Co_seek_2 N G u v1 v2 v3) := by
  unfold hb_Co_seek_2
  repeat' (first | with_reducible assumption | with_reducible refine Kn_br ?_ ?_ | with_reducible refine Kn_bnd ?_ (fun _ _ _ => ?_) | with_reducible refine Kn_ck ?_ | with_reducible refine Kn_ltm ?_ (fun _ _ => ?_) | with_reducible refine Kn_some ?_ | with_reducible refine Kn_bo (fun _ => ?_) | with_reducible refine Kn_T ?_ (fun _ _ _ => ?_) | with_reducible refine Kn_H ?_ (fun _ _ _ => ?_) (fun _ _ => ?_) | with_reducible exact yn_hb_Co_seek_32 (by assumption) hG0 | with_reducible exact hG0 _ _ _ _ (by assumption) | with_reducible refine Kn_ltv (fun _ => ?_) | with_reducible refine Kn_I ?_ (by decide) | with_reducible refine Kn_A ?_ (by decide) | with_reducible refine Kn_J ?_ | with_reducible refine Kn_L ?_)
theorem yn_hb_Co_seek_0 {G : (MS → Int32 → Int32 → Int32 → Option (MS × Int32))} {v1 : Int32} {v2 : Int32} (h : Knc u0 u) (hG0 : ∀ (u : MS) a0 a1 a2, Knc u0 u → KnE u0 (G u a0 a1 a2)) : KnE u0 (hb_Co_seek_0 N G u v1 v2) := by
  unfold hb_Co_seek_0
  repeat' (first | with_reducible assumption | with_reducible refine Kn_br ?_ ?_ | with_reducible refine Kn_bnd ?_ (fun _ _ _ => ?_) | with_reducible refine Kn_ck ?_ | with_reducible refine Kn_ltm ?_ (fun _ _ => ?_) | with_reducible refine Kn_some ?_ | with_reducible refine Kn_bo (fun _ => ?_) | with_reducible refine Kn_T ?_ (fun _ _ _ => ?_) | with_reducible refine Kn_H ?_ (fun _ _ _ => ?_) (fun _ _ => ?_) | with_reducible exact hG0 _ _ _ _ (by assumption) | with_reducible refine Kn_ltv (fun _ => ?_) | with_reducible refine Kn_I ?_ (by decide) | with_reducible refine Kn_A ?_ (by decide) | with_reducible refine Kn_J ?_ | with_reducible refine Kn_L ?_)
theorem yn_hg_Co_seek  (n : Nat) : (∀ (u : MS) a0 a1 a2, Knc u0 u → KnE u0 ((hg_Co_seek N n) u a0 a1 a2)) := by
  induction n with
  | zero => exact fun _ _ _ _ _ => Kn_none
  | succ n ih => exact fun _ _ _ _ h => yn_hb_Co_seek_2 (N := N) h ih
theorem yn_hm_Co_seek {v1 : Int32} {v2 : Int32} (h : Knc u0 u)  : KnE u0 (hm_Co_seek N u v1 v2) := by
  unfold hm_Co_seek
  exact yn_hb_Co_seek_0 h ((yn_hg_Co_seek N))
theorem yn_hb_Wo_seekIn_45 {G : Unit} {t0 : Int32} (h : Knc u0 u)  : KnE u0 (hb_Wo_seekIn_45 N G u t0) := by
  unfold hb_Wo_seekIn_45
  repeat' (first | with_reducible assumption | with_reducible refine Kn_br ?_ ?_ | with_reducible refine Kn_bnd ?_ (fun _ _ _ => ?_) | with_reducible refine Kn_ck ?_ | with_reducible refine Kn_ltm ?_ (fun _ _ => ?_) | with_reducible refine Kn_some ?_ | with_reducible refine Kn_bo (fun _ => ?_) | with_reducible refine Kn_T ?_ (fun _ _ _ => ?_) | with_reducible refine Kn_H ?_ (fun _ _ _ => ?_) (fun _ _ => ?_) | with_reducible refine Kn_ltv (fun _ => ?_) | with_reducible refine Kn_I ?_ (by decide) | with_reducible refine Kn_A ?_ (by decide) | with_reducible refine Kn_J ?_ | with_reducible refine Kn_L ?_)
theorem yn_hb_Wo_seekIn_12 {G : Unit} (h : Knc u0 u)  : KnE u0 (hb_Wo_seekIn_12 N G u) := by
  unfold hb_Wo_seekIn_12
  repeat' (first | with_reducible assumption | with_reducible refine Kn_br ?_ ?_ | with_reducible refine Kn_bnd ?_ (fun _ _ _ => ?_) | with_reducible refine Kn_ck ?_ | with_reducible refine Kn_ltm ?_ (fun _ _ => ?_) | with_reducible refine Kn_some ?_ | with_reducible refine Kn_bo (fun _ => ?_) | with_reducible refine Kn_T ?_ (fun _ _ _ => ?_) | with_reducible refine Kn_H ?_ (fun _ _ _ => ?_) (fun _ _ => ?_) | with_reducible exact yn_hb_Wo_seekIn_45 (by assumption) | with_reducible refine Kn_ltv (fun _ => ?_) | with_reducible refine Kn_I ?_ (by decide) | with_reducible refine Kn_A ?_ (by decide) | with_reducible refine Kn_J ?_ | with_reducible refine Kn_L ?_)
theorem yn_hb_Wo_seekIn_0 {G : Unit} {v0 : Nat} {v1 : Nat} {v2 : Int32} (h : Knc u0 u)  : KnE u0 (hb_Wo_seekIn_0 N G u v0 v1 v2) := by
  unfold hb_Wo_seekIn_0
  repeat' (first | with_reducible assumption | with_reducible refine Kn_br ?_ ?_ | with_reducible refine Kn_bnd ?_ (fun _ _ _ => ?_) | with_reducible refine Kn_ck ?_ | with_reducible refine Kn_ltm ?_ (fun _ _ => ?_) | with_reducible refine Kn_some ?_ | with_reducible refine Kn_bo (fun _ => ?_) | with_reducible refine Kn_T ?_ (fun _ _ _ => ?_) | with_reducible refine Kn_H ?_ (fun _ _ _ => ?_) (fun _ _ => ?_) | with_reducible exact yn_hb_Wo_seekIn_12 (by assumption) | with_reducible exact yn_hb_Wo_seekIn_45 (by assumption) | with_reducible exact yn_hm_Wo_seek (by assumption) | with_reducible refine Kn_ltv (fun _ => ?_) | with_reducible refine Kn_I ?_ (by decide) | with_reducible refine Kn_A ?_ (by decide) | with_reducible refine Kn_J ?_ | with_reducible refine Kn_L ?_)
theorem yn_hm_Wo_seekIn {v0 : Nat} {v1 : Nat} {v2 : Int32} (h : Knc u0 u)  : KnE u0 (hm_Wo_seekIn N u v0 v1 v2) := by
  unfold hm_Wo_seekIn
  exact yn_hb_Wo_seekIn_0 h
theorem yn_hb_Co_put_30 {G : Unit} (h : Knc u0 u)  : KnE u0 (hb_Co_put_30 N G u) := by
  unfold hb_Co_put_30
  repeat' (first | with_reducible assumption | with_reducible refine Kn_br ?_ ?_ | with_reducible refine Kn_bnd ?_ (fun _ _ _ => ?_) | with_reducible refine Kn_ck ?_ | with_reducible refine Kn_ltm ?_ (fun _ _ => ?_) | with_reducible refine Kn_some ?_ | with_reducible refine Kn_bo (fun _ => ?_) | with_reducible refine Kn_T ?_ (fun _ _ _ => ?_) | with_reducible refine Kn_H ?_ (fun _ _ _ => ?_) (fun _ _ => ?_) | with_reducible refine Kn_ltv (fun _ => ?_) | with_reducible refine Kn_I ?_ (by decide) | with_reducible refine Kn_A ?_ (by decide) | with_reducible refine Kn_J ?_ | with_reducible refine Kn_L ?_)
theorem yn_hb_Co_put_0 {G : Unit} {v1 : Int32} (h : Knc u0 u)  : KnE u0 (hb_Co_put_0 N G u v1) := by
  unfold hb_Co_put_0
  repeat' (first | with_reducible assumption | with_reducible refine Kn_br ?_ ?_ | with_reducible refine Kn_bnd ?_ (fun _ _ _ => ?_) | with_reducible refine Kn_ck ?_ | with_reducible refine Kn_ltm ?_ (fun _ _ => ?_) | with_reducible refine Kn_some ?_ | with_reducible refine Kn_bo (fun _ => ?_) | with_reducible refine Kn_T ?_ (fun _ _ _ => ?_) | with_reducible refine Kn_H ?_ (fun _ _ _ => ?_) (fun _ _ => ?_) | with_reducible exact yn_hb_Co_put_30 (by assumption) | with_reducible refine Kn_ltv (fun _ => ?_) | with_reducible refine Kn_I ?_ (by decide) | with_reducible refine Kn_A ?_ (by decide) | with_reducible refine Kn_J ?_ | with_reducible refine Kn_L ?_)
theorem yn_hm_Co_put {v1 : Int32} (h : Knc u0 u)  : KnE u0 (hm_Co_put N u v1) := by
  unfold hm_Co_put
  exact yn_hb_Co_put_0 h
theorem yn_hb_Co_hook_0 {G : Unit} {v1 : Int32} (h : Knc u0 u)  : KnE u0 (hb_Co_hook_0 N G u v1) := by
  unfold hb_Co_hook_0
  repeat' (first | with_reducible assumption | with_reducible refine Kn_br ?_ ?_ | with_reducible refine Kn_bnd ?_ (fun _ _ _ => ?_) | with_reducible refine Kn_ck ?_ | with_reducible refine Kn_ltm ?_ (fun _ _ => ?_) | with_reducible refine Kn_some ?_ | with_reducible refine Kn_bo (fun _ => ?_) | with_reducible refine Kn_T ?_ (fun _ _ _ => ?_) | with_reducible refine Kn_H ?_ (fun _ _ _ => ?_) (fun _ _ => ?_) | with_reducible exact yn_hm_Co_put (by assumption) | with_reducible refine Kn_ltv (fun _ => ?_) | with_reducible refine Kn_I ?_ (by decide) | with_reducible refine Kn_A ?_ (by decide) | with_reducible refine Kn_J ?_ | with_reducible refine Kn_L ?_)
theorem yn_hm_Co_hook {v1 : Int32} (h : Knc u0 u)  : KnE u0 (hm_Co_hook N u v1) := by
  unfold hm_Co_hook
  exact yn_hb_Co_hook_0 h
theorem yn_hb_Cm_term_0 {G : Unit} {v1 : Int32} {v2 : Int32} (h : Knc u0 u)  : KnE u0 (hb_Cm_term_0 N G u v1 v2) := by
  unfold hb_Cm_term_0
  repeat' (first | with_reducible assumption | with_reducible refine Kn_br ?_ ?_ | with_reducible refine Kn_bnd ?_ (fun _ _ _ => ?_) | with_reducible refine Kn_ck ?_ | with_reducible refine Kn_ltm ?_ (fun _ _ => ?_) | with_reducible refine Kn_some ?_ | with_reducible refine Kn_bo (fun _ => ?_) | with_reducible refine Kn_T ?_ (fun _ _ _ => ?_) | with_reducible refine Kn_H ?_ (fun _ _ _ => ?_) (fun _ _ => ?_) | with_reducible exact yn_hm_Co_put (by assumption) | with_reducible refine Kn_ltv (fun _ => ?_) | with_reducible refine Kn_I ?_ (by decide) | with_reducible refine Kn_A ?_ (by decide) | with_reducible refine Kn_J ?_ | with_reducible refine Kn_L ?_)
theorem yn_hm_Cm_term {v1 : Int32} {v2 : Int32} (h : Knc u0 u)  : KnE u0 (hm_Cm_term N u v1 v2) := by
  unfold hm_Cm_term
  exact yn_hb_Cm_term_0 h
theorem yn_hb_Cm_string_50 {G : (MS → Int32 → Int32 → Option (MS × Unit)) × (MS → Int32 → Int32 → Int32 → Option (MS × Unit))} {v2 : Int32} {v3 : Int32} {v4 : Int32} (h : Knc u0 u) (hG0 : ∀ (u : MS) a0 a1, Knc u0 u → KnE u0 (G.1 u a0 a1)) (hG1 : ∀ (u : MS) a0 a1 a2, Knc u0 u → KnE u0 (G.2 u a0 a1 a2)) : KnE u0 (hb_Cm_string_50 N G u v2 v3 v4) := by
  unfold hb_Cm_string_50
  repeat' (first | with_reducible assumption | with_reducible refine Kn_br ?_ ?_ | with_reducible refine Kn_bnd ?_ (fun _ _ _ => ?_) | with_reducible refine Kn_ck ?_ | with_reducible refine Kn_ltm ?_ (fun _ _ => ?_) | with_reducible refine Kn_some ?_ | with_reducible refine Kn_bo (fun _ => ?_) | with_reducible refine Kn_T ?_ (fun _ _ _ => ?_) | with_reducible refine Kn_H ?_ (fun _ _ _ => ?_) (fun _ _ => ?_) | with_reducible exact yn_hm_To_signAt (by assumption) | with_reducible exact yn_hm_Co_put (by assumption) | with_reducible exact hG0 _ _ _ (by assumption) | with_reducible exact hG1 _ _ _ _ (by assumption) | with_reducible refine Kn_ltv (fun _ => ?_) | with_reducible refine Kn_I ?_ (by decide) | with_reducible refine Kn_A ?_ (by decide) | with_reducible refine Kn_J ?_ | with_reducible refine Kn_L ?_)
theorem yn_hb_Cm_string_39 {G : (MS → Int32 → Int32 → Option (MS × Unit)) × (MS → Int32 → Int32 → Int32 → Option (MS × Unit))} {v2 : Int32} {v3 : Int32} (h : Knc u0 u) (hG0 : ∀ (u : MS) a0 a1, Knc u0 u → KnE u0 (G.1 u a0 a1)) (hG1 : ∀ (u : MS) a0 a1 a2, Knc u0 u → KnE u0 (G.2 u a0 a1 a2)) : KnE u0 (hb_Cm_string_39 N G u v2 v3) := by
  unfold hb_Cm_string_39
  repeat' (first | with_reducible assumption | with_reducible refine Kn_br ?_ ?_ | with_reducible refine Kn_bnd ?_ (fun _ _ _ => ?_) | with_reducible refine Kn_ck ?_ | with_reducible refine Kn_ltm ?_ (fun _ _ => ?_) | with_reducible refine Kn_some ?_ | with_reducible refine Kn_bo (fun _ => ?_) | with_reducible refine Kn_T ?_ (fun _ _ _ => ?_) | with_reducible refine Kn_H ?_ (fun _ _ _ => ?_) (fun _ _ => ?_) | with_reducible exact yn_hm_Co_put (by assumption) | with_reducible exact hG0 _ _ _ (by assumption) | with_reducible exact hG1 _ _ _ _ (by assumption) | with_reducible refine Kn_ltv (fun _ => ?_) | with_reducible refine Kn_I ?_ (by decide) | with_reducible refine Kn_A ?_ (by decide) | with_reducible refine Kn_J ?_ | with_reducible refine Kn_L ?_)
theorem yn_hb_Cm_string_12 {G : (MS → Int32 → Int32 → Option (MS × Unit)) × (MS → Int32 → Int32 → Int32 → Option (MS × Unit))} {v2 : Int32} {v3 : Int32} (h : Knc u0 u) (hG0 : ∀ (u : MS) a0 a1, Knc u0 u → KnE u0 (G.1 u a0 a1)) (hG1 : ∀ (u : MS) a0 a1 a2, Knc u0 u → KnE u0 (G.2 u a0 a1 a2)) : KnE u0 (hb_Cm_string_12 N G u v2 v3) := by
  unfold hb_Cm_string_12
  repeat' (first | with_reducible assumption | with_reducible refine Kn_br ?_ ?_ | with_reducible refine Kn_bnd ?_ (fun _ _ _ => ?_) | with_reducible refine Kn_ck ?_ | with_reducible refine Kn_ltm ?_ (fun _ _ => ?_) | with_reducible refine Kn_some ?_ | with_reducible refine Kn_bo (fun _ => ?_) | with_reducible refine Kn_T ?_ (fun _ _ _ => ?_) | with_reducible refine Kn_H ?_ (fun _ _ _ => ?_) (fun _ _ => ?_) | with_reducible exact yn_hb_Cm_string_39 (by assumption) hG0 hG1 | with_reducible exact yn_hm_To_signAt (by assumption) | with_reducible exact hG0 _ _ _ (by assumption) | with_reducible exact hG1 _ _ _ _ (by assumption) | with_reducible refine Kn_ltv (fun _ => ?_) | with_reducible refine Kn_I ?_ (by decide) | with_reducible refine Kn_A ?_ (by decide) | with_reducible refine Kn_J ?_ | with_reducible refine Kn_L ?_)
theorem yn_hb_Cm_string_0 {G : (MS → Int32 → Int32 → Option (MS × Unit)) × (MS → Int32 → Int32 → Int32 → Option (MS × Unit))} {v1 : Int32} (h : Knc u0 u) (hG0 : ∀ (u : MS) a0 a1, Knc u0 u → KnE u0 (G.1 u a0 a1)) (hG1 : ∀ (u : MS) a0 a1 a2, Knc u0 u → KnE u0 (G.2 u a0 a1 a2)) : KnE u0 (hb_Cm_string_0 N G u v1) := by
  unfold hb_Cm_string_0
  repeat' (first | with_reducible assumption | with_reducible refine Kn_br ?_ ?_ | with_reducible refine Kn_bnd ?_ (fun _ _ _ => ?_) | with_reducible refine Kn_ck ?_ | with_reducible refine Kn_ltm ?_ (fun _ _ => ?_) | with_reducible refine Kn_some ?_ | with_reducible refine Kn_bo (fun _ => ?_) | with_reducible refine Kn_T ?_ (fun _ _ _ => ?_) | with_reducible refine Kn_H ?_ (fun _ _ _ => ?_) (fun _ _ => ?_) | with_reducible exact hG0 _ _ _ (by assumption) | with_reducible exact hG1 _ _ _ _ (by assumption) | with_reducible refine Kn_ltv (fun _ => ?_) | with_reducible refine Kn_I ?_ (by decide) | with_reducible refine Kn_A ?_ (by decide) | with_reducible refine Kn_J ?_ | with_reducible refine Kn_L ?_)
theorem yn_hg_Cm_string  (n : Nat) : (∀ (u : MS) a0 a1, Knc u0 u → KnE u0 ((hg_Cm_string N n).1 u a0 a1)) ∧ (∀ (u : MS) a0 a1 a2, Knc u0 u → KnE u0 ((hg_Cm_string N n).2 u a0 a1 a2)) := by
  induction n with
  | zero => exact ⟨fun _ _ _ _ => Kn_none, fun _ _ _ _ _ => Kn_none⟩
  | succ n ih => exact ⟨fun _ _ _ h => yn_hb_Cm_string_12 (N := N) h ih.1 ih.2, fun _ _ _ _ h => yn_hb_Cm_string_50 (N := N) h ih.1 ih.2⟩
theorem yn_hm_Cm_string {v1 : Int32} (h : Knc u0 u)  : KnE u0 (hm_Cm_string N u v1) := by
  unfold hm_Cm_string
  exact yn_hb_Cm_string_0 h ((yn_hg_Cm_string N).1) ((yn_hg_Cm_string N).2)
theorem yn_hb_Co_at_21 {G : Unit} {t0 : Int32} (h : Knc u0 u)  : KnE u0 (hb_Co_at_21 N G u t0) := by
  unfold hb_Co_at_21
  repeat' (first | with_reducible assumption | with_reducible refine Kn_br ?_ ?_ | with_reducible refine Kn_bnd ?_ (fun _ _ _ => ?_) | with_reducible refine Kn_ck ?_ | with_reducible refine Kn_ltm ?_ (fun _ _ => ?_) | with_reducible refine Kn_some ?_ | with_reducible refine Kn_bo (fun _ => ?_) | with_reducible refine Kn_T ?_ (fun _ _ _ => ?_) | with_reducible refine Kn_H ?_ (fun _ _ _ => ?_) (fun _ _ => ?_) | with_reducible refine Kn_ltv (fun _ => ?_) | with_reducible refine Kn_I ?_ (by decide) | with_reducible refine Kn_A ?_ (by decide) | with_reducible refine Kn_J ?_ | with_reducible refine Kn_L ?_)
theorem yn_hb_Co_at_11 {G : Unit} (h : Knc u0 u)  : KnE u0 (hb_Co_at_11 N G u) := by
  unfold hb_Co_at_11
  repeat' (first | with_reducible assumption | with_reducible refine Kn_br ?_ ?_ | with_reducible refine Kn_bnd ?_ (fun _ _ _ => ?_) | with_reducible refine Kn_ck ?_ | with_reducible refine Kn_ltm ?_ (fun _ _ => ?_) | with_reducible refine Kn_some ?_ | with_reducible refine Kn_bo (fun _ => ?_) | with_reducible refine Kn_T ?_ (fun _ _ _ => ?_) | with_reducible refine Kn_H ?_ (fun _ _ _ => ?_) (fun _ _ => ?_) | with_reducible exact yn_hb_Co_at_21 (by assumption) | with_reducible refine Kn_ltv (fun _ => ?_) | with_reducible refine Kn_I ?_ (by decide) | with_reducible refine Kn_A ?_ (by decide) | with_reducible refine Kn_J ?_ | with_reducible refine Kn_L ?_)
theorem yn_hb_Co_at_0 {G : Unit} {v1 : Int32} (h : Knc u0 u)  : KnE u0 (hb_Co_at_0 N G u v1) := by
  unfold hb_Co_at_0
  repeat' (first | with_reducible assumption | with_reducible refine Kn_br ?_ ?_ | with_reducible refine Kn_bnd ?_ (fun _ _ _ => ?_) | with_reducible refine Kn_ck ?_ | with_reducible refine Kn_ltm ?_ (fun _ _ => ?_) | with_reducible refine Kn_some ?_ | with_reducible refine Kn_bo (fun _ => ?_) | with_reducible refine Kn_T ?_ (fun _ _ _ => ?_) | with_reducible refine Kn_H ?_ (fun _ _ _ => ?_) (fun _ _ => ?_) | with_reducible exact yn_hb_Co_at_11 (by assumption) | with_reducible exact yn_hb_Co_at_21 (by assumption) | with_reducible refine Kn_ltv (fun _ => ?_) | with_reducible refine Kn_I ?_ (by decide) | with_reducible refine Kn_A ?_ (by decide) | with_reducible refine Kn_J ?_ | with_reducible refine Kn_L ?_)
theorem yn_hm_Co_at {v1 : Int32} (h : Knc u0 u)  : KnE u0 (hm_Co_at N u v1) := by
  unfold hm_Co_at
  exact yn_hb_Co_at_0 h
theorem yn_hb_Co_set_18 {G : Unit} (h : Knc u0 u)  : KnE u0 (hb_Co_set_18 N G u) := by
  unfold hb_Co_set_18
  repeat' (first | with_reducible assumption | with_reducible refine Kn_br ?_ ?_ | with_reducible refine Kn_bnd ?_ (fun _ _ _ => ?_) | with_reducible refine Kn_ck ?_ | with_reducible refine Kn_ltm ?_ (fun _ _ => ?_) | with_reducible refine Kn_some ?_ | with_reducible refine Kn_bo (fun _ => ?_) | with_reducible refine Kn_T ?_ (fun _ _ _ => ?_) | with_reducible refine Kn_H ?_ (fun _ _ _ => ?_) (fun _ _ => ?_) | with_reducible refine Kn_ltv (fun _ => ?_) | with_reducible refine Kn_I ?_ (by decide) | with_reducible refine Kn_A ?_ (by decide) | with_reducible refine Kn_J ?_ | with_reducible refine Kn_L ?_)
theorem yn_hb_Co_set_0 {G : Unit} {v1 : Int32} {v2 : Int32} (h : Knc u0 u)  : KnE u0 (hb_Co_set_0 N G u v1 v2) := by
  unfold hb_Co_set_0
  repeat' (first | with_reducible assumption | with_reducible refine Kn_br ?_ ?_ | with_reducible refine Kn_bnd ?_ (fun _ _ _ => ?_) | with_reducible refine Kn_ck ?_ | with_reducible refine Kn_ltm ?_ (fun _ _ => ?_) | with_reducible refine Kn_some ?_ | with_reducible refine Kn_bo (fun _ => ?_) | with_reducible refine Kn_T ?_ (fun _ _ _ => ?_) | with_reducible refine Kn_H ?_ (fun _ _ _ => ?_) (fun _ _ => ?_) | with_reducible exact yn_hb_Co_set_18 (by assumption) | with_reducible refine Kn_ltv (fun _ => ?_) | with_reducible refine Kn_I ?_ (by decide) | with_reducible refine Kn_A ?_ (by decide) | with_reducible refine Kn_J ?_ | with_reducible refine Kn_L ?_)
theorem yn_hm_Co_set {v1 : Int32} {v2 : Int32} (h : Knc u0 u)  : KnE u0 (hm_Co_set N u v1 v2) := by
  unfold hm_Co_set
  exact yn_hb_Co_set_0 h
theorem yn_hb_Co_arrive_40 {G : (MS → Int32 → Int32 → Option (MS × Unit))} (h : Knc u0 u) (hG0 : ∀ (u : MS) a0 a1, Knc u0 u → KnE u0 (G u a0 a1)) : KnE u0 (hb_Co_arrive_40 N G u) := by
  unfold hb_Co_arrive_40
  repeat' (first | with_reducible assumption | with_reducible refine Kn_br ?_ ?_ | with_reducible refine Kn_bnd ?_ (fun _ _ _ => ?_) | with_reducible refine Kn_ck ?_ | with_reducible refine Kn_ltm ?_ (fun _ _ => ?_) | with_reducible refine Kn_some ?_ | with_reducible refine Kn_bo (fun _ => ?_) | with_reducible refine Kn_T ?_ (fun _ _ _ => ?_) | with_reducible refine Kn_H ?_ (fun _ _ _ => ?_) (fun _ _ => ?_) | with_reducible exact hG0 _ _ _ (by assumption) | with_reducible refine Kn_ltv (fun _ => ?_) | with_reducible refine Kn_I ?_ (by decide) | with_reducible refine Kn_A ?_ (by decide) | with_reducible refine Kn_J ?_ | with_reducible refine Kn_L ?_)
theorem yn_hb_Co_arrive_4 {G : (MS → Int32 → Int32 → Option (MS × Unit))} {v2 : Int32} {v3 : Int32} (h : Knc u0 u) (hG0 : ∀ (u : MS) a0 a1, Knc u0 u → KnE u0 (G u a0 a1)) : KnE u0 (hb_Co_arrive_4 N G u v2 v3) := by
  unfold hb_Co_arrive_4
  repeat' (first | with_reducible assumption | with_reducible refine Kn_br ?_ ?_ | with_reducible refine Kn_bnd ?_ (fun _ _ _ => ?_) | with_reducible refine Kn_ck ?_ | with_reducible refine Kn_ltm ?_ (fun _ _ => ?_) | with_reducible refine Kn_some ?_ | with_reducible refine Kn_bo (fun _ => ?_) | with_reducible refine Kn_T ?_ (fun _ _ _ => ?_) | with_reducible refine Kn_H ?_ (fun _ _ _ => ?_) (fun _ _ => ?_) | with_reducible exact yn_hb_Co_arrive_40 (by assumption) hG0 | with_reducible exact yn_hm_Co_set (by assumption) | with_reducible exact yn_hm_Co_at (by assumption) | with_reducible exact hG0 _ _ _ (by assumption) | with_reducible refine Kn_ltv (fun _ => ?_) | with_reducible refine Kn_I ?_ (by decide) | with_reducible refine Kn_A ?_ (by decide) | with_reducible refine Kn_J ?_ | with_reducible refine Kn_L ?_)
theorem yn_hb_Co_arrive_0 {G : (MS → Int32 → Int32 → Option (MS × Unit))} {v1 : Int32} (h : Knc u0 u) (hG0 : ∀ (u : MS) a0 a1, Knc u0 u → KnE u0 (G u a0 a1)) : KnE u0 (hb_Co_arrive_0 N G u v1) := by
  unfold hb_Co_arrive_0
  repeat' (first | with_reducible assumption | with_reducible refine Kn_br ?_ ?_ | with_reducible refine Kn_bnd ?_ (fun _ _ _ => ?_) | with_reducible refine Kn_ck ?_ | with_reducible refine Kn_ltm ?_ (fun _ _ => ?_) | with_reducible refine Kn_some ?_ | with_reducible refine Kn_bo (fun _ => ?_) | with_reducible refine Kn_T ?_ (fun _ _ _ => ?_) | with_reducible refine Kn_H ?_ (fun _ _ _ => ?_) (fun _ _ => ?_) | with_reducible exact hG0 _ _ _ (by assumption) | with_reducible refine Kn_ltv (fun _ => ?_) | with_reducible refine Kn_I ?_ (by decide) | with_reducible refine Kn_A ?_ (by decide) | with_reducible refine Kn_J ?_ | with_reducible refine Kn_L ?_)
theorem yn_hg_Co_arrive  (n : Nat) : (∀ (u : MS) a0 a1, Knc u0 u → KnE u0 ((hg_Co_arrive N n) u a0 a1)) := by
  induction n with
  | zero => exact fun _ _ _ _ => Kn_none
  | succ n ih => exact fun _ _ _ h => yn_hb_Co_arrive_4 (N := N) h ih
theorem yn_hm_Co_arrive {v1 : Int32} (h : Knc u0 u)  : KnE u0 (hm_Co_arrive N u v1) := by
  unfold hm_Co_arrive
  exact yn_hb_Co_arrive_0 h ((yn_hg_Co_arrive N))
theorem yn_hb_Cm_predefinedOf_54 {G : Unit} {t0 : Int32} (h : Knc u0 u)  : KnE u0 (hb_Cm_predefinedOf_54 N G u t0) := by
  unfold hb_Cm_predefinedOf_54
  repeat' (first | with_reducible assumption | with_reducible refine Kn_br ?_ ?_ | with_reducible refine Kn_bnd ?_ (fun _ _ _ => ?_) | with_reducible refine Kn_ck ?_ | with_reducible refine Kn_ltm ?_ (fun _ _ => ?_) | with_reducible refine Kn_some ?_ | with_reducible refine Kn_bo (fun _ => ?_) | with_reducible refine Kn_T ?_ (fun _ _ _ => ?_) | with_reducible refine Kn_H ?_ (fun _ _ _ => ?_) (fun _ _ => ?_) | with_reducible refine Kn_ltv (fun _ => ?_) | with_reducible refine Kn_I ?_ (by decide) | with_reducible refine Kn_A ?_ (by decide) | with_reducible refine Kn_J ?_ | with_reducible refine Kn_L ?_)
theorem yn_hb_Cm_predefinedOf_53 {G : Unit} (h : Knc u0 u)  : KnE u0 (hb_Cm_predefinedOf_53 N G u) := by
  unfold hb_Cm_predefinedOf_53
  repeat' (first | with_reducible assumption | with_reducible refine Kn_br ?_ ?_ | with_reducible refine Kn_bnd ?_ (fun _ _ _ => ?_) | with_reducible refine Kn_ck ?_ | with_reducible refine Kn_ltm ?_ (fun _ _ => ?_) | with_reducible refine Kn_some ?_ | with_reducible refine Kn_bo (fun _ => ?_) | with_reducible refine Kn_T ?_ (fun _ _ _ => ?_) | with_reducible refine Kn_H ?_ (fun _ _ _ => ?_) (fun _ _ => ?_) | with_reducible exact yn_hb_Cm_predefinedOf_54 (by assumption) | with_reducible refine Kn_ltv (fun _ => ?_) | with_reducible refine Kn_I ?_ (by decide) | with_reducible refine Kn_A ?_ (by decide) | with_reducible refine Kn_J ?_ | with_reducible refine Kn_L ?_)
theorem yn_hb_Cm_predefinedOf_27 {G : Unit} {v2 : Int32} {v3 : Int32} (h : Knc u0 u)  : KnE u0 (hb_Cm_predefinedOf_27 N G u v2 v3) := by
  unfold hb_Cm_predefinedOf_27
  repeat' (first | with_reducible assumption | with_reducible refine Kn_br ?_ ?_ | with_reducible refine Kn_bnd ?_ (fun _ _ _ => ?_) | with_reducible refine Kn_ck ?_ | with_reducible refine Kn_ltm ?_ (fun _ _ => ?_) | with_reducible refine Kn_some ?_ | with_reducible refine Kn_bo (fun _ => ?_) | with_reducible refine Kn_T ?_ (fun _ _ _ => ?_) | with_reducible refine Kn_H ?_ (fun _ _ _ => ?_) (fun _ _ => ?_) | with_reducible exact yn_hb_Cm_predefinedOf_53 (by assumption) | with_reducible exact yn_hb_Cm_predefinedOf_54 (by assumption) | with_reducible refine Kn_ltv (fun _ => ?_) | with_reducible refine Kn_I ?_ (by decide) | with_reducible refine Kn_A ?_ (by decide) | with_reducible refine Kn_J ?_ | with_reducible refine Kn_L ?_)
theorem yn_hb_Cm_predefinedOf_0 {G : Unit} {v1 : Int32} {v2 : Int32} (h : Knc u0 u)  : KnE u0 (hb_Cm_predefinedOf_0 N G u v1 v2) := by
  unfold hb_Cm_predefinedOf_0
  repeat' (first | with_reducible assumption | with_reducible refine Kn_br ?_ ?_ | with_reducible refine Kn_bnd ?_ (fun _ _ _ => ?_) | with_reducible refine Kn_ck ?_ | with_reducible refine Kn_ltm ?_ (fun _ _ => ?_) | with_reducible refine Kn_some ?_ | with_reducible refine Kn_bo (fun _ => ?_) | with_reducible refine Kn_T ?_ (fun _ _ _ => ?_) | with_reducible refine Kn_H ?_ (fun _ _ _ => ?_) (fun _ _ => ?_) | with_reducible exact yn_hb_Cm_predefinedOf_27 (by assumption) | with_reducible exact yn_hm_Wo_seekIn (by assumption) | with_reducible refine Kn_ltv (fun _ => ?_) | with_reducible refine Kn_I ?_ (by decide) | with_reducible refine Kn_A ?_ (by decide) | with_reducible refine Kn_J ?_ | with_reducible refine Kn_L ?_)
theorem yn_hm_Cm_predefinedOf {v1 : Int32} {v2 : Int32} (h : Knc u0 u)  : KnE u0 (hm_Cm_predefinedOf N u v1 v2) := by
  unfold hm_Cm_predefinedOf
  exact yn_hb_Cm_predefinedOf_0 h
end
