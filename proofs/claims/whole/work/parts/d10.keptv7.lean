/-! what looks things up leaves the size of the code and the faults as they are -/
set_option maxRecDepth 100000
def Kv7c (u w : MS) : Prop := w.1 441 = u.1 441 ∧ w.1 711 = u.1 711 ∧ w.1 714 = u.1 714
def Kv7E {α : Type} (u : MS) (o : Option (MS × α)) : Prop := ∀ w r, o = some (w, r) → Kv7c u w
section
variable {α β : Type} {u0 u w : MS} {k : Nat}
theorem Kv7_none : Kv7E u0 (none : Option (MS × α)) := fun _ _ e => by cases e
theorem Kv7_some {r : α} (h : Kv7c u0 w) : Kv7E u0 (some (w, r)) := fun _ _ e => by injection e with e; injection e with e1 _; exact e1 ▸ h
theorem Kv7_br {b : Bool} {p q : Option (MS × α)} (h1 : Kv7E u0 p) (h2 : Kv7E u0 q) : Kv7E u0 (br b p q) := by cases b <;> assumption
theorem Kv7_ck {b : Bool} {p : Option (MS × α)} (h1 : Kv7E u0 p) : Kv7E u0 (ck b p) := by
  cases b
  · exact Kv7_none
  · exact h1
theorem Kv7_bo {o : Option β} {f : β → Option (MS × α)} (h : ∀ j, Kv7E u0 (f j)) : Kv7E u0 (bo o f) := by
  cases o with
  | none => exact Kv7_none
  | some j => exact h j
theorem Kv7_bnd {o : Option (MS × β)} {f : MS → β → Option (MS × α)} (h1 : Kv7E u0 o) (h2 : ∀ w r, Kv7c u0 w → Kv7E u0 (f w r)) : Kv7E u0 (bnd o f) := by
  cases o with
  | none => exact Kv7_none
  | some x => exact h2 x.1 x.2 (h1 x.1 x.2 rfl)
theorem Kv7_T {o : Option (MS × (β ⊕ Nat))} {f : MS → β → Option (MS × (α ⊕ Nat))} (h1 : Kv7E u0 o) (h2 : ∀ w r, Kv7c u0 w → Kv7E u0 (f w r)) : Kv7E u0 (bTm o f) := by
  cases o with
  | none => exact Kv7_none
  | some x =>
    obtain ⟨x, z⟩ := x
    cases z with
    | inl v => exact h2 x v (h1 x _ rfl)
    | inr k => exact Kv7_some (h1 x _ rfl)
theorem Kv7_H {o : Option (MS × (β ⊕ Nat))} {f : MS → β → Option (MS × α)} {g : MS → Option (MS × α)} (h1 : Kv7E u0 o) (h2 : ∀ w r, Kv7c u0 w → Kv7E u0 (f w r)) (h3 : ∀ w, Kv7c u0 w → Kv7E u0 (g w)) : Kv7E u0 (bHm o f g) := by
  cases o with
  | none => exact Kv7_none
  | some x =>
    obtain ⟨x, z⟩ := x
    cases z with
    | inl v => exact h2 x v (h1 x _ rfl)
    | inr k =>
      show Kv7E u0 (if k = 3 then g x else none)
      split
      · exact h3 x (h1 x _ rfl)
      · exact Kv7_none
theorem Kv7_ltm {x : MS} {f : MS → Option (MS × α)} (h1 : Kv7c u0 x) (h2 : ∀ w, Kv7c u0 w → Kv7E u0 (f w)) : Kv7E u0 (lt x f) := h2 x h1
theorem Kv7_ltv {x : β} {f : β → Option (MS × α)} (h2 : ∀ y, Kv7E u0 (f y)) : Kv7E u0 (lt x f) := h2 x
theorem Kv7_I {v : Int32} (h : Kv7c u0 u) (hk : k ≠ 441 ∧ k ≠ 711 ∧ k ≠ 714) : Kv7c u0 (upI u k v) := ⟨(if_neg (fun z => hk.1 z.symm)).trans h.1, (if_neg (fun z => hk.2.1 z.symm)).trans h.2.1, (if_neg (fun z => hk.2.2 z.symm)).trans h.2.2⟩
theorem Kv7_L {v : Int64} (h : Kv7c u0 u) : Kv7c u0 (upL u k v) := h
theorem Kv7_J {v : Nat → Int64} (h : Kv7c u0 u) : Kv7c u0 (upJ u k v) := h
theorem Kv7_A {v : Nat → Int32} (h : Kv7c u0 u) (hk : True) : Kv7c u0 (upA u k v) := h
theorem Kv7_rf : Kv7c u u := ⟨rfl, rfl, rfl⟩
end
section
variable {u0 u : MS} {N : Nat}
theorem yv7_hb_To_signAt_26 {G : Unit} {t0 : Int32} (h : Kv7c u0 u)  : Kv7E u0 (hb_To_signAt_26 N G u t0) := by
  unfold hb_To_signAt_26
  repeat' (first | with_reducible assumption | with_reducible refine Kv7_br ?_ ?_ | with_reducible refine Kv7_bnd ?_ (fun _ _ _ => ?_) | with_reducible refine Kv7_ck ?_ | with_reducible refine Kv7_ltm ?_ (fun _ _ => ?_) | with_reducible refine Kv7_some ?_ | with_reducible refine Kv7_bo (fun _ => ?_) | with_reducible refine Kv7_T ?_ (fun _ _ _ => ?_) | with_reducible refine Kv7_H ?_ (fun _ _ _ => ?_) (fun _ _ => ?_) | with_reducible refine Kv7_ltv (fun _ => ?_) | with_reducible refine Kv7_I ?_ (by decide) | with_reducible refine Kv7_A ?_ trivial | with_reducible refine Kv7_J ?_ | with_reducible refine Kv7_L ?_)
theorem yv7_hb_To_signAt_12 {G : Unit} (h : Kv7c u0 u)  : Kv7E u0 (hb_To_signAt_12 N G u) := by
  unfold hb_To_signAt_12
  repeat' (first | with_reducible assumption | with_reducible refine Kv7_br ?_ ?_ | with_reducible refine Kv7_bnd ?_ (fun _ _ _ => ?_) | with_reducible refine Kv7_ck ?_ | with_reducible refine Kv7_ltm ?_ (fun _ _ => ?_) | with_reducible refine Kv7_some ?_ | with_reducible refine Kv7_bo (fun _ => ?_) | with_reducible refine Kv7_T ?_ (fun _ _ _ => ?_) | with_reducible refine Kv7_H ?_ (fun _ _ _ => ?_) (fun _ _ => ?_) | with_reducible exact yv7_hb_To_signAt_26 (by assumption) | with_reducible refine Kv7_ltv (fun _ => ?_) | with_reducible refine Kv7_I ?_ (by decide) | with_reducible refine Kv7_A ?_ trivial | with_reducible refine Kv7_J ?_ | with_reducible refine Kv7_L ?_)
theorem yv7_hb_To_signAt_0 {G : Unit} {v1 : Int32} (h : Kv7c u0 u)  : Kv7E u0 (hb_To_signAt_0 N G u v1) := by
  unfold hb_To_signAt_0
  repeat' (first | with_reducible assumption | with_reducible refine Kv7_br ?_ ?_ | with_reducible refine Kv7_bnd ?_ (fun _ _ _ => ?_) | with_reducible refine Kv7_ck ?_ | with_reducible refine Kv7_ltm ?_ (fun _ _ => ?_) | with_reducible refine Kv7_some ?_ | with_reducible refine Kv7_bo (fun _ => ?_) | with_reducible refine Kv7_T ?_ (fun _ _ _ => ?_) | with_reducible refine Kv7_H ?_ (fun _ _ _ => ?_) (fun _ _ => ?_) | with_reducible exact yv7_hb_To_signAt_12 (by assumption) | with_reducible exact yv7_hb_To_signAt_26 (by assumption) | with_reducible refine Kv7_ltv (fun _ => ?_) | with_reducible refine Kv7_I ?_ (by decide) | with_reducible refine Kv7_A ?_ trivial | with_reducible refine Kv7_J ?_ | with_reducible refine Kv7_L ?_)
theorem yv7_hm_To_signAt {v1 : Int32} (h : Kv7c u0 u)  : Kv7E u0 (hm_To_signAt N u v1) := by
  unfold hm_To_signAt
  exact yv7_hb_To_signAt_0 h
theorem yv7_hb_Wo_isSame_12 {G : (MS → Nat → Int32 → Nat → Int32 → Int32 → Int32 → Option (MS × Int32))} {v0 : Nat} {v1 : Int32} {v2 : Nat} {v3 : Int32} {v4 : Int32} {v5 : Int32} (h : Kv7c u0 u) (hG0 : ∀ (u : MS) a0 a1 a2 a3 a4 a5, Kv7c u0 u → Kv7E u0 (G u a0 a1 a2 a3 a4 a5)) : Kv7E u0 (hb_Wo_isSame_12 N G u v0 v1 v2 v3 v4 v5) := by
  unfold hb_Wo_isSame_12
  repeat' (first | with_reducible assumption | with_reducible refine Kv7_br ?_ ?_ | with_reducible refine Kv7_bnd ?_ (fun _ _ _ => ?_) | with_reducible refine Kv7_ck ?_ | with_reducible refine Kv7_ltm ?_ (fun _ _ => ?_) | with_reducible refine Kv7_some ?_ | with_reducible refine Kv7_bo (fun _ => ?_) | with_reducible refine Kv7_T ?_ (fun _ _ _ => ?_) | with_reducible refine Kv7_H ?_ (fun _ _ _ => ?_) (fun _ _ => ?_) | with_reducible exact hG0 _ _ _ _ _ _ _ (by assumption) | with_reducible refine Kv7_ltv (fun _ => ?_) | with_reducible refine Kv7_I ?_ (by decide) | with_reducible refine Kv7_A ?_ trivial | with_reducible refine Kv7_J ?_ | with_reducible refine Kv7_L ?_)
theorem yv7_hb_Wo_isSame_0 {G : (MS → Nat → Int32 → Nat → Int32 → Int32 → Int32 → Option (MS × Int32))} {v0 : Nat} {v1 : Int32} {v2 : Nat} {v3 : Int32} (h : Kv7c u0 u) (hG0 : ∀ (u : MS) a0 a1 a2 a3 a4 a5, Kv7c u0 u → Kv7E u0 (G u a0 a1 a2 a3 a4 a5)) : Kv7E u0 (hb_Wo_isSame_0 N G u v0 v1 v2 v3) := by
  unfold hb_Wo_isSame_0
  repeat' (first | with_reducible assumption | with_reducible refine Kv7_br ?_ ?_ | with_reducible refine Kv7_bnd ?_ (fun _ _ _ => ?_) | with_reducible refine Kv7_ck ?_ | with_reducible refine Kv7_ltm ?_ (fun _ _ => ?_) | with_reducible refine Kv7_some ?_ | with_reducible refine Kv7_bo (fun _ => ?_) | with_reducible refine Kv7_T ?_ (fun _ _ _ => ?_) | with_reducible refine Kv7_H ?_ (fun _ _ _ => ?_) (fun _ _ => ?_) | with_reducible exact hG0 _ _ _ _ _ _ _ (by assumption) | with_reducible refine Kv7_ltv (fun _ => ?_) | with_reducible refine Kv7_I ?_ (by decide) | with_reducible refine Kv7_A ?_ trivial | with_reducible refine Kv7_J ?_ | with_reducible refine Kv7_L ?_)
theorem yv7_hg_Wo_isSame  (n : Nat) : (∀ (u : MS) a0 a1 a2 a3 a4 a5, Kv7c u0 u → Kv7E u0 ((hg_Wo_isSame N n) u a0 a1 a2 a3 a4 a5)) := by
  induction n with
  | zero => exact fun _ _ _ _ _ _ _ _ => Kv7_none
  | succ n ih => exact fun _ _ _ _ _ _ _ h => yv7_hb_Wo_isSame_12 (N := N) h ih
theorem yv7_hm_Wo_isSame {v0 : Nat} {v1 : Int32} {v2 : Nat} {v3 : Int32} (h : Kv7c u0 u)  : Kv7E u0 (hm_Wo_isSame N u v0 v1 v2 v3) := by
  unfold hm_Wo_isSame
  exact yv7_hb_Wo_isSame_0 h ((yv7_hg_Wo_isSame N))
theorem yv7_hb_Wo_seek_47 {G : (MS → Nat → Nat → Int32 → Int32 → Int32 → Option (MS × Int32))} {v0 : Nat} {v1 : Nat} {v2 : Int32} {v3 : Int32} {v4 : Int32} (h : Kv7c u0 u) (hG0 : ∀ (u : MS) a0 a1 a2 a3 a4, Kv7c u0 u → Kv7E u0 (G u a0 a1 a2 a3 a4)) : Kv7E u0 (hb_Wo_seek_47 N G u v0 v1 v2 v3 v4) := by
  unfold hb_Wo_seek_47
  repeat' (first | with_reducible assumption | with_reducible refine Kv7_br ?_ ?_ | with_reducible refine Kv7_bnd ?_ (fun _ _ _ => ?_) | with_reducible refine Kv7_ck ?_ | with_reducible refine Kv7_ltm ?_ (fun _ _ => ?_) | with_reducible refine Kv7_some ?_ | with_reducible refine Kv7_bo (fun _ => ?_) | with_reducible refine Kv7_T ?_ (fun _ _ _ => ?_) | with_reducible refine Kv7_H ?_ (fun _ _ _ => ?_) (fun _ _ => ?_) | with_reducible exact hG0 _ _ _ _ _ _ (by assumption) | with_reducible refine Kv7_ltv (fun _ => ?_) | with_reducible refine Kv7_I ?_ (by decide) | with_reducible refine Kv7_A ?_ trivial | with_reducible refine Kv7_J ?_ | with_reducible refine Kv7_L ?_)
theorem yv7_hb_Wo_seek_3 {G : (MS → Nat → Nat → Int32 → Int32 → Int32 → Option (MS × Int32))} {v0 : Nat} {v1 : Nat} {v2 : Int32} {v3 : Int32} {v4 : Int32} (h : Kv7c u0 u) (hG0 : ∀ (u : MS) a0 a1 a2 a3 a4, Kv7c u0 u → Kv7E u0 (G u a0 a1 a2 a3 a4)) : Kv7E u0 (hb_Wo_seek_3 N G u v0 v1 v2 v3 v4) := by
  unfold hb_Wo_seek_3
  repeat' (first | with_reducible assumption | with_reducible refine Kv7_br ?_ ?_ | with_reducible refine Kv7_bnd ?_ (fun _ _ _ => ?_) | with_reducible refine Kv7_ck ?_ | with_reducible refine Kv7_ltm ?_ (fun _ _ => ?_) | with_reducible refine Kv7_some ?_ | with_reducible refine Kv7_bo (fun _ => ?_) | with_reducible refine Kv7_T ?_ (fun _ _ _ => ?_) | with_reducible refine Kv7_H ?_ (fun _ _ _ => ?_) (fun _ _ => ?_) | with_reducible exact yv7_hb_Wo_seek_47 (by assumption) hG0 | with_reducible exact yv7_hm_Wo_isSame (by assumption) | with_reducible exact hG0 _ _ _ _ _ _ (by assumption) | with_reducible refine Kv7_ltv (fun _ => ?_) | with_reducible refine Kv7_I ?_ (by decide) | with_reducible refine Kv7_A ?_ trivial | with_reducible refine Kv7_J ?_ | with_reducible refine Kv7_L ?_)
theorem yv7_hb_Wo_seek_0 {G : (MS → Nat → Nat → Int32 → Int32 → Int32 → Option (MS × Int32))} {v0 : Nat} {v1 : Nat} {v2 : Int32} {v3 : Int32} (h : Kv7c u0 u) (hG0 : ∀ (u : MS) a0 a1 a2 a3 a4, Kv7c u0 u → Kv7E u0 (G u a0 a1 a2 a3 a4)) : Kv7E u0 (hb_Wo_seek_0 N G u v0 v1 v2 v3) := by
  unfold hb_Wo_seek_0
  repeat' (first | with_reducible assumption | with_reducible refine Kv7_br ?_ ?_ | with_reducible refine Kv7_bnd ?_ (fun _ _ _ => ?_) | with_reducible refine Kv7_ck ?_ | with_reducible refine Kv7_ltm ?_ (fun _ _ => ?_) | with_reducible refine Kv7_some ?_ | with_reducible refine Kv7_bo (fun _ => ?_) | with_reducible refine Kv7_T ?_ (fun _ _ _ => ?_) | with_reducible refine Kv7_H ?_ (fun _ _ _ => ?_) (fun _ _ => ?_) | with_reducible exact hG0 _ _ _ _ _ _ (by assumption) | with_reducible refine Kv7_ltv (fun _ => ?_) | with_reducible refine Kv7_I ?_ (by decide) | with_reducible refine Kv7_A ?_ trivial | with_reducible refine Kv7_J ?_ | with_reducible refine Kv7_L ?_)
theorem yv7_hg_Wo_seek  (n : Nat) : (∀ (u : MS) a0 a1 a2 a3 a4, Kv7c u0 u → Kv7E u0 ((hg_Wo_seek N n) u a0 a1 a2 a3 a4)) := by
  induction n with
  | zero => exact fun _ _ _ _ _ _ _ => Kv7_none
  | succ n ih => exact fun _ _ _ _ _ _ h => yv7_hb_Wo_seek_3 (N := N) h ih
theorem yv7_hm_Wo_seek {v0 : Nat} {v1 : Nat} {v2 : Int32} {v3 : Int32} (h : Kv7c u0 u)  : Kv7E u0 (hm_Wo_seek N u v0 v1 v2 v3) := by
  unfold hm_Wo_seek
  exact yv7_hb_Wo_seek_0 h ((yv7_hg_Wo_seek N))
theorem yv7_hb_Tr_length_4 {G : (MS → Int32 → Int32 → Option (MS × Int32))} {v2 : Int32} {v3 : Int32} (h : Kv7c u0 u) (hG0 : ∀ (u : MS) a0 a1, Kv7c u0 u → Kv7E u0 (G u a0 a1)) : Kv7E u0 (hb_Tr_length_4 N G u v2 v3) := by
  unfold hb_Tr_length_4
  repeat' (first | with_reducible assumption | with_reducible refine Kv7_br ?_ ?_ | with_reducible refine Kv7_bnd ?_ (fun _ _ _ => ?_) | with_reducible refine Kv7_ck ?_ | with_reducible refine Kv7_ltm ?_ (fun _ _ => ?_) | with_reducible refine Kv7_some ?_ | with_reducible refine Kv7_bo (fun _ => ?_) | with_reducible refine Kv7_T ?_ (fun _ _ _ => ?_) | with_reducible refine Kv7_H ?_ (fun _ _ _ => ?_) (fun _ _ => ?_) | with_reducible exact hG0 _ _ _ (by assumption) | with_reducible refine Kv7_ltv (fun _ => ?_) | with_reducible refine Kv7_I ?_ (by decide) | with_reducible refine Kv7_A ?_ trivial | with_reducible refine Kv7_J ?_ | with_reducible refine Kv7_L ?_)
theorem yv7_hb_Tr_length_0 {G : (MS → Int32 → Int32 → Option (MS × Int32))} {v1 : Int32} (h : Kv7c u0 u) (hG0 : ∀ (u : MS) a0 a1, Kv7c u0 u → Kv7E u0 (G u a0 a1)) : Kv7E u0 (hb_Tr_length_0 N G u v1) := by
  unfold hb_Tr_length_0
  repeat' (first | with_reducible assumption | with_reducible refine Kv7_br ?_ ?_ | with_reducible refine Kv7_bnd ?_ (fun _ _ _ => ?_) | with_reducible refine Kv7_ck ?_ | with_reducible refine Kv7_ltm ?_ (fun _ _ => ?_) | with_reducible refine Kv7_some ?_ | with_reducible refine Kv7_bo (fun _ => ?_) | with_reducible refine Kv7_T ?_ (fun _ _ _ => ?_) | with_reducible refine Kv7_H ?_ (fun _ _ _ => ?_) (fun _ _ => ?_) | with_reducible exact hG0 _ _ _ (by assumption) | with_reducible refine Kv7_ltv (fun _ => ?_) | with_reducible refine Kv7_I ?_ (by decide) | with_reducible refine Kv7_A ?_ trivial | with_reducible refine Kv7_J ?_ | with_reducible refine Kv7_L ?_)
theorem yv7_hg_Tr_length  (n : Nat) : (∀ (u : MS) a0 a1, Kv7c u0 u → Kv7E u0 ((hg_Tr_length N n) u a0 a1)) := by
  induction n with
  | zero => exact fun _ _ _ _ => Kv7_none
  | succ n ih => exact fun _ _ _ h => yv7_hb_Tr_length_4 (N := N) h ih
theorem yv7_hm_Tr_length {v1 : Int32} (h : Kv7c u0 u)  : Kv7E u0 (hm_Tr_length N u v1) := by
  unfold hm_Tr_length
  exact yv7_hb_Tr_length_0 h ((yv7_hg_Tr_length N))
theorem yv7_hb_Co_seek_32 {G : (MS → Int32 → Int32 → Int32 → Option (MS × Int32))} {v1 : Int32} {v2 : Int32} {v3 : Int32} (h : Kv7c u0 u) (hG0 : ∀ (u : MS) a0 a1 a2, Kv7c u0 u → Kv7E u0 (G u a0 a1 a2)) : Kv7E u0 (hb_Co_seek_32 N G u v1 v2 v3) := by
  unfold hb_Co_seek_32
  repeat' (first | with_reducible assumption | with_reducible refine Kv7_br ?_ ?_ | with_reducible refine Kv7_bnd ?_ (fun _ _ _ => ?_) | with_reducible refine Kv7_ck ?_ | with_reducible refine Kv7_ltm ?_ (fun _ _ => ?_) | with_reducible refine Kv7_some ?_ | with_reducible refine Kv7_bo (fun _ => ?_) | with_reducible refine Kv7_T ?_ (fun _ _ _ => ?_) | with_reducible refine Kv7_H ?_ (fun _ _ _ => ?_) (fun _ _ => ?_) | with_reducible exact hG0 _ _ _ _ (by assumption) | with_reducible refine Kv7_ltv (fun _ => ?_) | with_reducible refine Kv7_I ?_ (by decide) | with_reducible refine Kv7_A ?_ trivial | with_reducible refine Kv7_J ?_ | with_reducible refine Kv7_L ?_)
theorem yv7_hb_Co_seek_2 {G : (MS → Int32 → Int32 → Int32 → Option (MS × Int32))} {v1 : Int32} {v2 : Int32} {v3 : Int32} (h : Kv7c u0 u) (hG0 : ∀ (u : MS) a0 a1 a2, Kv7c u0 u → Kv7E u0 (G u a0 a1 a2)) : Kv7E u0 (hb_Co_seek_2 N G u v1 v2 v3) := by
  unfold hb_Co_seek_2
  repeat' (first | with_reducible assumption | with_reducible refine Kv7_br ?_ ?_ | with_reducible refine Kv7_bnd ?_ (fun _ _ _ => ?_) | with_reducible refine Kv7_ck ?_ | with_reducible refine Kv7_ltm ?_ (fun _ _ => ?_) | with_reducible refine Kv7_some ?_ | with_reducible refine Kv7_bo (fun _ => ?_) | with_reducible refine Kv7_T ?_ (fun _ _ _ => ?_) | with_reducible refine Kv7_H ?_ (fun _ _ _ => ?_) (fun _ _ => ?_) | with_reducible exact yv7_hb_Co_seek_32 (by assumption) hG0 | with_reducible exact hG0 _ _ _ _ (by assumption) | with_reducible refine Kv7_ltv (fun _ => ?_) | with_reducible refine Kv7_I ?_ (by decide) | with_reducible refine Kv7_A ?_ trivial | with_reducible refine Kv7_J ?_ | with_reducible refine Kv7_L ?_)
theorem yv7_hb_Co_seek_0 {G : (MS → Int32 → Int32 → Int32 → Option (MS × Int32))} {v1 : Int32} {v2 : Int32} (h : Kv7c u0 u) (hG0 : ∀ (u : MS) a0 a1 a2, Kv7c u0 u → Kv7E u0 (G u a0 a1 a2)) : Kv7E u0 (hb_Co_seek_0 N G u v1 v2) := by
  unfold hb_Co_seek_0
  repeat' (first | with_reducible assumption | with_reducible refine Kv7_br ?_ ?_ | with_reducible refine Kv7_bnd ?_ (fun _ _ _ => ?_) | with_reducible refine Kv7_ck ?_ | with_reducible refine Kv7_ltm ?_ (fun _ _ => ?_) | with_reducible refine Kv7_some ?_ | with_reducible refine Kv7_bo (fun _ => ?_) | with_reducible refine Kv7_T ?_ (fun _ _ _ => ?_) | with_reducible refine Kv7_H ?_ (fun _ _ _ => ?_) (fun _ _ => ?_) | with_reducible exact hG0 _ _ _ _ (by assumption) | with_reducible refine Kv7_ltv (fun _ => ?_) | with_reducible refine Kv7_I ?_ (by decide) | with_reducible refine Kv7_A ?_ trivial | with_reducible refine Kv7_J ?_ | with_reducible refine Kv7_L ?_)
theorem yv7_hg_Co_seek  (n : Nat) : (∀ (u : MS) a0 a1 a2, Kv7c u0 u → Kv7E u0 ((hg_Co_seek N n) u a0 a1 a2)) := by
  induction n with
  | zero => exact fun _ _ _ _ _ => Kv7_none
  | succ n ih => exact fun _ _ _ _ h => yv7_hb_Co_seek_2 (N := N) h ih
theorem yv7_hm_Co_seek {v1 : Int32} {v2 : Int32} (h : Kv7c u0 u)  : Kv7E u0 (hm_Co_seek N u v1 v2) := by
  unfold hm_Co_seek
  exact yv7_hb_Co_seek_0 h ((yv7_hg_Co_seek N))
theorem yv7_hb_Wo_seekIn_45 {G : Unit} {t0 : Int32} (h : Kv7c u0 u)  : Kv7E u0 (hb_Wo_seekIn_45 N G u t0) := by
  unfold hb_Wo_seekIn_45
  repeat' (first | with_reducible assumption | with_reducible refine Kv7_br ?_ ?_ | with_reducible refine Kv7_bnd ?_ (fun _ _ _ => ?_) | with_reducible refine Kv7_ck ?_ | with_reducible refine Kv7_ltm ?_ (fun _ _ => ?_) | with_reducible refine Kv7_some ?_ | with_reducible refine Kv7_bo (fun _ => ?_) | with_reducible refine Kv7_T ?_ (fun _ _ _ => ?_) | with_reducible refine Kv7_H ?_ (fun _ _ _ => ?_) (fun _ _ => ?_) | with_reducible refine Kv7_ltv (fun _ => ?_) | with_reducible refine Kv7_I ?_ (by decide) | with_reducible refine Kv7_A ?_ trivial | with_reducible refine Kv7_J ?_ | with_reducible refine Kv7_L ?_)
theorem yv7_hb_Wo_seekIn_12 {G : Unit} (h : Kv7c u0 u)  : Kv7E u0 (hb_Wo_seekIn_12 N G u) := by
  unfold hb_Wo_seekIn_12
  repeat' (first | with_reducible assumption | with_reducible refine Kv7_br ?_ ?_ | with_reducible refine Kv7_bnd ?_ (fun _ _ _ => ?_) | with_reducible refine Kv7_ck ?_ | with_reducible refine Kv7_ltm ?_ (fun _ _ => ?_) | with_reducible refine Kv7_some ?_ | with_reducible refine Kv7_bo (fun _ => ?_) | with_reducible refine Kv7_T ?_ (fun _ _ _ => ?_) | with_reducible refine Kv7_H ?_ (fun _ _ _ => ?_) (fun _ _ => ?_) | with_reducible exact yv7_hb_Wo_seekIn_45 (by assumption) | with_reducible refine Kv7_ltv (fun _ => ?_) | with_reducible refine Kv7_I ?_ (by decide) | with_reducible refine Kv7_A ?_ trivial | with_reducible refine Kv7_J ?_ | with_reducible refine Kv7_L ?_)
theorem yv7_hb_Wo_seekIn_0 {G : Unit} {v0 : Nat} {v1 : Nat} {v2 : Int32} (h : Kv7c u0 u)  : Kv7E u0 (hb_Wo_seekIn_0 N G u v0 v1 v2) := by
  unfold hb_Wo_seekIn_0
  repeat' (first | with_reducible assumption | with_reducible refine Kv7_br ?_ ?_ | with_reducible refine Kv7_bnd ?_ (fun _ _ _ => ?_) | with_reducible refine Kv7_ck ?_ | with_reducible refine Kv7_ltm ?_ (fun _ _ => ?_) | with_reducible refine Kv7_some ?_ | with_reducible refine Kv7_bo (fun _ => ?_) | with_reducible refine Kv7_T ?_ (fun _ _ _ => ?_) | with_reducible refine Kv7_H ?_ (fun _ _ _ => ?_) (fun _ _ => ?_) | with_reducible exact yv7_hb_Wo_seekIn_12 (by assumption) | with_reducible exact yv7_hb_Wo_seekIn_45 (by assumption) | with_reducible exact yv7_hm_Wo_seek (by assumption) | with_reducible refine Kv7_ltv (fun _ => ?_) | with_reducible refine Kv7_I ?_ (by decide) | with_reducible refine Kv7_A ?_ trivial | with_reducible refine Kv7_J ?_ | with_reducible refine Kv7_L ?_)
theorem yv7_hm_Wo_seekIn {v0 : Nat} {v1 : Nat} {v2 : Int32} (h : Kv7c u0 u)  : Kv7E u0 (hm_Wo_seekIn N u v0 v1 v2) := by
  unfold hm_Wo_seekIn
  exact yv7_hb_Wo_seekIn_0 h
theorem yv7_hb_Cm_isBound_54 {G : (MS → Int32 → Int32 → Int32 → Int32 → Option (MS × Int32)) × (MS → Int32 → Int32 → Int32 → Option (MS × Int32))} {v2 : Int32} {v5 : Int32} (h : Kv7c u0 u) (hG0 : ∀ (u : MS) a0 a1 a2 a3, Kv7c u0 u → Kv7E u0 (G.1 u a0 a1 a2 a3)) (hG1 : ∀ (u : MS) a0 a1 a2, Kv7c u0 u → Kv7E u0 (G.2 u a0 a1 a2)) : Kv7E u0 (hb_Cm_isBound_54 N G u v2 v5) := by
  unfold hb_Cm_isBound_54
  repeat' (first | with_reducible assumption | with_reducible refine Kv7_br ?_ ?_ | with_reducible refine Kv7_bnd ?_ (fun _ _ _ => ?_) | with_reducible refine Kv7_ck ?_ | with_reducible refine Kv7_ltm ?_ (fun _ _ => ?_) | with_reducible refine Kv7_some ?_ | with_reducible refine Kv7_bo (fun _ => ?_) | with_reducible refine Kv7_T ?_ (fun _ _ _ => ?_) | with_reducible refine Kv7_H ?_ (fun _ _ _ => ?_) (fun _ _ => ?_) | with_reducible exact hG0 _ _ _ _ _ (by assumption) | with_reducible exact hG1 _ _ _ _ (by assumption) | with_reducible refine Kv7_ltv (fun _ => ?_) | with_reducible refine Kv7_I ?_ (by decide) | with_reducible refine Kv7_A ?_ trivial | with_reducible refine Kv7_J ?_ | with_reducible refine Kv7_L ?_)
theorem yv7_hb_Cm_isBound_31 {G : (MS → Int32 → Int32 → Int32 → Int32 → Option (MS × Int32)) × (MS → Int32 → Int32 → Int32 → Option (MS × Int32))} {v2 : Int32} {v4 : Int32} {v5 : Int32} (h : Kv7c u0 u) (hG0 : ∀ (u : MS) a0 a1 a2 a3, Kv7c u0 u → Kv7E u0 (G.1 u a0 a1 a2 a3)) (hG1 : ∀ (u : MS) a0 a1 a2, Kv7c u0 u → Kv7E u0 (G.2 u a0 a1 a2)) : Kv7E u0 (hb_Cm_isBound_31 N G u v2 v4 v5) := by
  unfold hb_Cm_isBound_31
  repeat' (first | with_reducible assumption | with_reducible refine Kv7_br ?_ ?_ | with_reducible refine Kv7_bnd ?_ (fun _ _ _ => ?_) | with_reducible refine Kv7_ck ?_ | with_reducible refine Kv7_ltm ?_ (fun _ _ => ?_) | with_reducible refine Kv7_some ?_ | with_reducible refine Kv7_bo (fun _ => ?_) | with_reducible refine Kv7_T ?_ (fun _ _ _ => ?_) | with_reducible refine Kv7_H ?_ (fun _ _ _ => ?_) (fun _ _ => ?_) | with_reducible exact yv7_hb_Cm_isBound_54 (by assumption) hG0 hG1 | with_reducible exact hG0 _ _ _ _ _ (by assumption) | with_reducible exact hG1 _ _ _ _ (by assumption) | with_reducible refine Kv7_ltv (fun _ => ?_) | with_reducible refine Kv7_I ?_ (by decide) | with_reducible refine Kv7_A ?_ trivial | with_reducible refine Kv7_J ?_ | with_reducible refine Kv7_L ?_)
theorem yv7_hb_Cm_isBound_8 {G : (MS → Int32 → Int32 → Int32 → Int32 → Option (MS × Int32)) × (MS → Int32 → Int32 → Int32 → Option (MS × Int32))} {v1 : Int32} {v2 : Int32} {v3 : Int32} {v4 : Int32} (h : Kv7c u0 u) (hG0 : ∀ (u : MS) a0 a1 a2 a3, Kv7c u0 u → Kv7E u0 (G.1 u a0 a1 a2 a3)) (hG1 : ∀ (u : MS) a0 a1 a2, Kv7c u0 u → Kv7E u0 (G.2 u a0 a1 a2)) : Kv7E u0 (hb_Cm_isBound_8 N G u v1 v2 v3 v4) := by
  unfold hb_Cm_isBound_8
  repeat' (first | with_reducible assumption | with_reducible refine Kv7_br ?_ ?_ | with_reducible refine Kv7_bnd ?_ (fun _ _ _ => ?_) | with_reducible refine Kv7_ck ?_ | with_reducible refine Kv7_ltm ?_ (fun _ _ => ?_) | with_reducible refine Kv7_some ?_ | with_reducible refine Kv7_bo (fun _ => ?_) | with_reducible refine Kv7_T ?_ (fun _ _ _ => ?_) | with_reducible refine Kv7_H ?_ (fun _ _ _ => ?_) (fun _ _ => ?_) | with_reducible exact hG0 _ _ _ _ _ (by assumption) | with_reducible exact hG1 _ _ _ _ (by assumption) | with_reducible refine Kv7_ltv (fun _ => ?_) | with_reducible refine Kv7_I ?_ (by decide) | with_reducible refine Kv7_A ?_ trivial | with_reducible refine Kv7_J ?_ | with_reducible refine Kv7_L ?_)
theorem yv7_hb_Cm_isBound_0 {G : (MS → Int32 → Int32 → Int32 → Int32 → Option (MS × Int32)) × (MS → Int32 → Int32 → Int32 → Option (MS × Int32))} {v1 : Int32} {v2 : Int32} {v3 : Int32} (h : Kv7c u0 u) (hG0 : ∀ (u : MS) a0 a1 a2 a3, Kv7c u0 u → Kv7E u0 (G.1 u a0 a1 a2 a3)) (hG1 : ∀ (u : MS) a0 a1 a2, Kv7c u0 u → Kv7E u0 (G.2 u a0 a1 a2)) : Kv7E u0 (hb_Cm_isBound_0 N G u v1 v2 v3) := by
  unfold hb_Cm_isBound_0
  repeat' (first | with_reducible assumption | with_reducible refine Kv7_br ?_ ?_ | with_reducible refine Kv7_bnd ?_ (fun _ _ _ => ?_) | with_reducible refine Kv7_ck ?_ | with_reducible refine Kv7_ltm ?_ (fun _ _ => ?_) | with_reducible refine Kv7_some ?_ | with_reducible refine Kv7_bo (fun _ => ?_) | with_reducible refine Kv7_T ?_ (fun _ _ _ => ?_) | with_reducible refine Kv7_H ?_ (fun _ _ _ => ?_) (fun _ _ => ?_) | with_reducible exact hG0 _ _ _ _ _ (by assumption) | with_reducible exact hG1 _ _ _ _ (by assumption) | with_reducible refine Kv7_ltv (fun _ => ?_) | with_reducible refine Kv7_I ?_ (by decide) | with_reducible refine Kv7_A ?_ trivial | with_reducible refine Kv7_J ?_ | with_reducible refine Kv7_L ?_)
theorem yv7_hg_Cm_isBound  (n : Nat) : (∀ (u : MS) a0 a1 a2 a3, Kv7c u0 u → Kv7E u0 ((hg_Cm_isBound N n).1 u a0 a1 a2 a3)) ∧ (∀ (u : MS) a0 a1 a2, Kv7c u0 u → Kv7E u0 ((hg_Cm_isBound N n).2 u a0 a1 a2)) := by
  induction n with
  | zero => exact ⟨fun _ _ _ _ _ _ => Kv7_none, fun _ _ _ _ _ => Kv7_none⟩
  | succ n ih => exact ⟨fun _ _ _ _ _ h => yv7_hb_Cm_isBound_8 (N := N) h ih.1 ih.2, fun _ _ _ _ h => yv7_hb_Cm_isBound_31 (N := N) h ih.1 ih.2⟩
theorem yv7_hm_Cm_isBound {v1 : Int32} {v2 : Int32} {v3 : Int32} (h : Kv7c u0 u)  : Kv7E u0 (hm_Cm_isBound N u v1 v2 v3) := by
  unfold hm_Cm_isBound
  exact yv7_hb_Cm_isBound_0 h ((yv7_hg_Cm_isBound N).1) ((yv7_hg_Cm_isBound N).2)
theorem yv7_hb_Co_at_21 {G : Unit} {t0 : Int32} (h : Kv7c u0 u)  : Kv7E u0 (hb_Co_at_21 N G u t0) := by
  unfold hb_Co_at_21
  repeat' (first | with_reducible assumption | with_reducible refine Kv7_br ?_ ?_ | with_reducible refine Kv7_bnd ?_ (fun _ _ _ => ?_) | with_reducible refine Kv7_ck ?_ | with_reducible refine Kv7_ltm ?_ (fun _ _ => ?_) | with_reducible refine Kv7_some ?_ | with_reducible refine Kv7_bo (fun _ => ?_) | with_reducible refine Kv7_T ?_ (fun _ _ _ => ?_) | with_reducible refine Kv7_H ?_ (fun _ _ _ => ?_) (fun _ _ => ?_) | with_reducible refine Kv7_ltv (fun _ => ?_) | with_reducible refine Kv7_I ?_ (by decide) | with_reducible refine Kv7_A ?_ trivial | with_reducible refine Kv7_J ?_ | with_reducible refine Kv7_L ?_)
theorem yv7_hb_Co_at_11 {G : Unit} (h : Kv7c u0 u)  : Kv7E u0 (hb_Co_at_11 N G u) := by
  unfold hb_Co_at_11
  repeat' (first | with_reducible assumption | with_reducible refine Kv7_br ?_ ?_ | with_reducible refine Kv7_bnd ?_ (fun _ _ _ => ?_) | with_reducible refine Kv7_ck ?_ | with_reducible refine Kv7_ltm ?_ (fun _ _ => ?_) | with_reducible refine Kv7_some ?_ | with_reducible refine Kv7_bo (fun _ => ?_) | with_reducible refine Kv7_T ?_ (fun _ _ _ => ?_) | with_reducible refine Kv7_H ?_ (fun _ _ _ => ?_) (fun _ _ => ?_) | with_reducible exact yv7_hb_Co_at_21 (by assumption) | with_reducible refine Kv7_ltv (fun _ => ?_) | with_reducible refine Kv7_I ?_ (by decide) | with_reducible refine Kv7_A ?_ trivial | with_reducible refine Kv7_J ?_ | with_reducible refine Kv7_L ?_)
theorem yv7_hb_Co_at_0 {G : Unit} {v1 : Int32} (h : Kv7c u0 u)  : Kv7E u0 (hb_Co_at_0 N G u v1) := by
  unfold hb_Co_at_0
  repeat' (first | with_reducible assumption | with_reducible refine Kv7_br ?_ ?_ | with_reducible refine Kv7_bnd ?_ (fun _ _ _ => ?_) | with_reducible refine Kv7_ck ?_ | with_reducible refine Kv7_ltm ?_ (fun _ _ => ?_) | with_reducible refine Kv7_some ?_ | with_reducible refine Kv7_bo (fun _ => ?_) | with_reducible refine Kv7_T ?_ (fun _ _ _ => ?_) | with_reducible refine Kv7_H ?_ (fun _ _ _ => ?_) (fun _ _ => ?_) | with_reducible exact yv7_hb_Co_at_11 (by assumption) | with_reducible exact yv7_hb_Co_at_21 (by assumption) | with_reducible refine Kv7_ltv (fun _ => ?_) | with_reducible refine Kv7_I ?_ (by decide) | with_reducible refine Kv7_A ?_ trivial | with_reducible refine Kv7_J ?_ | with_reducible refine Kv7_L ?_)
theorem yv7_hm_Co_at {v1 : Int32} (h : Kv7c u0 u)  : Kv7E u0 (hm_Co_at N u v1) := by
  unfold hm_Co_at
  exact yv7_hb_Co_at_0 h
theorem yv7_hb_Co_set_18 {G : Unit} (h : Kv7c u0 u)  : Kv7E u0 (hb_Co_set_18 N G u) := by
  unfold hb_Co_set_18
  repeat' (first | with_reducible assumption | with_reducible refine Kv7_br ?_ ?_ | with_reducible refine Kv7_bnd ?_ (fun _ _ _ => ?_) | with_reducible refine Kv7_ck ?_ | with_reducible refine Kv7_ltm ?_ (fun _ _ => ?_) | with_reducible refine Kv7_some ?_ | with_reducible refine Kv7_bo (fun _ => ?_) | with_reducible refine Kv7_T ?_ (fun _ _ _ => ?_) | with_reducible refine Kv7_H ?_ (fun _ _ _ => ?_) (fun _ _ => ?_) | with_reducible refine Kv7_ltv (fun _ => ?_) | with_reducible refine Kv7_I ?_ (by decide) | with_reducible refine Kv7_A ?_ trivial | with_reducible refine Kv7_J ?_ | with_reducible refine Kv7_L ?_)
theorem yv7_hb_Co_set_0 {G : Unit} {v1 : Int32} {v2 : Int32} (h : Kv7c u0 u)  : Kv7E u0 (hb_Co_set_0 N G u v1 v2) := by
  unfold hb_Co_set_0
  repeat' (first | with_reducible assumption | with_reducible refine Kv7_br ?_ ?_ | with_reducible refine Kv7_bnd ?_ (fun _ _ _ => ?_) | with_reducible refine Kv7_ck ?_ | with_reducible refine Kv7_ltm ?_ (fun _ _ => ?_) | with_reducible refine Kv7_some ?_ | with_reducible refine Kv7_bo (fun _ => ?_) | with_reducible refine Kv7_T ?_ (fun _ _ _ => ?_) | with_reducible refine Kv7_H ?_ (fun _ _ _ => ?_) (fun _ _ => ?_) | with_reducible exact yv7_hb_Co_set_18 (by assumption) | with_reducible refine Kv7_ltv (fun _ => ?_) | with_reducible refine Kv7_I ?_ (by decide) | with_reducible refine Kv7_A ?_ trivial | with_reducible refine Kv7_J ?_ | with_reducible refine Kv7_L ?_)
theorem yv7_hm_Co_set {v1 : Int32} {v2 : Int32} (h : Kv7c u0 u)  : Kv7E u0 (hm_Co_set N u v1 v2) := by
  unfold hm_Co_set
  exact yv7_hb_Co_set_0 h
theorem yv7_hb_Co_arrive_40 {G : (MS → Int32 → Int32 → Option (MS × Unit))} (h : Kv7c u0 u) (hG0 : ∀ (u : MS) a0 a1, Kv7c u0 u → Kv7E u0 (G u a0 a1)) : Kv7E u0 (hb_Co_arrive_40 N G u) := by
  unfold hb_Co_arrive_40
  repeat' (first | with_reducible assumption | with_reducible refine Kv7_br ?_ ?_ | with_reducible refine Kv7_bnd ?_ (fun _ _ _ => ?_) | with_reducible refine Kv7_ck ?_ | with_reducible refine Kv7_ltm ?_ (fun _ _ => ?_) | with_reducible refine Kv7_some ?_ | with_reducible refine Kv7_bo (fun _ => ?_) | with_reducible refine Kv7_T ?_ (fun _ _ _ => ?_) | with_reducible refine Kv7_H ?_ (fun _ _ _ => ?_) (fun _ _ => ?_) | with_reducible exact hG0 _ _ _ (by assumption) | with_reducible refine Kv7_ltv (fun _ => ?_) | with_reducible refine Kv7_I ?_ (by decide) | with_reducible refine Kv7_A ?_ trivial | with_reducible refine Kv7_J ?_ | with_reducible refine Kv7_L ?_)
theorem yv7_hb_Co_arrive_4 {G : (MS → Int32 → Int32 → Option (MS × Unit))} {v2 : Int32} {v3 : Int32} (h : Kv7c u0 u) (hG0 : ∀ (u : MS) a0 a1, Kv7c u0 u → Kv7E u0 (G u a0 a1)) : Kv7E u0 (hb_Co_arrive_4 N G u v2 v3) := by
  unfold hb_Co_arrive_4
  repeat' (first | with_reducible assumption | with_reducible refine Kv7_br ?_ ?_ | with_reducible refine Kv7_bnd ?_ (fun _ _ _ => ?_) | with_reducible refine Kv7_ck ?_ | with_reducible refine Kv7_ltm ?_ (fun _ _ => ?_) | with_reducible refine Kv7_some ?_ | with_reducible refine Kv7_bo (fun _ => ?_) | with_reducible refine Kv7_T ?_ (fun _ _ _ => ?_) | with_reducible refine Kv7_H ?_ (fun _ _ _ => ?_) (fun _ _ => ?_) | with_reducible exact yv7_hb_Co_arrive_40 (by assumption) hG0 | with_reducible exact yv7_hm_Co_set (by assumption) | with_reducible exact yv7_hm_Co_at (by assumption) | with_reducible exact hG0 _ _ _ (by assumption) | with_reducible refine Kv7_ltv (fun _ => ?_) | with_reducible refine Kv7_I ?_ (by decide) | with_reducible refine Kv7_A ?_ trivial | with_reducible refine Kv7_J ?_ | with_reducible refine Kv7_L ?_)
theorem yv7_hb_Co_arrive_0 {G : (MS → Int32 → Int32 → Option (MS × Unit))} {v1 : Int32} (h : Kv7c u0 u) (hG0 : ∀ (u : MS) a0 a1, Kv7c u0 u → Kv7E u0 (G u a0 a1)) : Kv7E u0 (hb_Co_arrive_0 N G u v1) := by
  unfold hb_Co_arrive_0
  repeat' (first | with_reducible assumption | with_reducible refine Kv7_br ?_ ?_ | with_reducible refine Kv7_bnd ?_ (fun _ _ _ => ?_) | with_reducible refine Kv7_ck ?_ | with_reducible refine Kv7_ltm ?_ (fun _ _ => ?_) | with_reducible refine Kv7_some ?_ | with_reducible refine Kv7_bo (fun _ => ?_) | with_reducible refine Kv7_T ?_ (fun _ _ _ => ?_) | with_reducible refine Kv7_H ?_ (fun _ _ _ => ?_) (fun _ _ => ?_) | with_reducible exact hG0 _ _ _ (by assumption) | with_reducible refine Kv7_ltv (fun _ => ?_) | with_reducible refine Kv7_I ?_ (by decide) | with_reducible refine Kv7_A ?_ trivial | with_reducible refine Kv7_J ?_ | with_reducible refine Kv7_L ?_)
theorem yv7_hg_Co_arrive  (n : Nat) : (∀ (u : MS) a0 a1, Kv7c u0 u → Kv7E u0 ((hg_Co_arrive N n) u a0 a1)) := by
  induction n with
  | zero => exact fun _ _ _ _ => Kv7_none
  | succ n ih => exact fun _ _ _ h => yv7_hb_Co_arrive_4 (N := N) h ih
theorem yv7_hm_Co_arrive {v1 : Int32} (h : Kv7c u0 u)  : Kv7E u0 (hm_Co_arrive N u v1) := by
  unfold hm_Co_arrive
  exact yv7_hb_Co_arrive_0 h ((yv7_hg_Co_arrive N))
theorem yv7_hb_Cm_predefinedOf_54 {G : Unit} {t0 : Int32} (h : Kv7c u0 u)  : Kv7E u0 (hb_Cm_predefinedOf_54 N G u t0) := by
  unfold hb_Cm_predefinedOf_54
  repeat' (first | with_reducible assumption | with_reducible refine Kv7_br ?_ ?_ | with_reducible refine Kv7_bnd ?_ (fun _ _ _ => ?_) | with_reducible refine Kv7_ck ?_ | with_reducible refine Kv7_ltm ?_ (fun _ _ => ?_) | with_reducible refine Kv7_some ?_ | with_reducible refine Kv7_bo (fun _ => ?_) | with_reducible refine Kv7_T ?_ (fun _ _ _ => ?_) | with_reducible refine Kv7_H ?_ (fun _ _ _ => ?_) (fun _ _ => ?_) | with_reducible refine Kv7_ltv (fun _ => ?_) | with_reducible refine Kv7_I ?_ (by decide) | with_reducible refine Kv7_A ?_ trivial | with_reducible refine Kv7_J ?_ | with_reducible refine Kv7_L ?_)
theorem yv7_hb_Cm_predefinedOf_53 {G : Unit} (h : Kv7c u0 u)  : Kv7E u0 (hb_Cm_predefinedOf_53 N G u) := by
  unfold hb_Cm_predefinedOf_53
  repeat' (first | with_reducible assumption | with_reducible refine Kv7_br ?_ ?_ | with_reducible refine Kv7_bnd ?_ (fun _ _ _ => ?_) | with_reducible refine Kv7_ck ?_ | with_reducible refine Kv7_ltm ?_ (fun _ _ => ?_) | with_reducible refine Kv7_some ?_ | with_reducible refine Kv7_bo (fun _ => ?_) | with_reducible refine Kv7_T ?_ (fun _ _ _ => ?_) | with_reducible refine Kv7_H ?_ (fun _ _ _ => ?_) (fun _ _ => ?_) | with_reducible exact yv7_hb_Cm_predefinedOf_54 (by assumption) | with_reducible refine Kv7_ltv (fun _ => ?_) | with_reducible refine Kv7_I ?_ (by decide) | with_reducible refine Kv7_A ?_ trivial | with_reducible refine Kv7_J ?_ | with_reducible refine Kv7_L ?_)
theorem yv7_hb_Cm_predefinedOf_27 {G : Unit} {v2 : Int32} {v3 : Int32} (h : Kv7c u0 u)  : Kv7E u0 (hb_Cm_predefinedOf_27 N G u v2 v3) := by
  unfold hb_Cm_predefinedOf_27
  repeat' (first | with_reducible assumption | with_reducible refine Kv7_br ?_ ?_ | with_reducible refine Kv7_bnd ?_ (fun _ _ _ => ?_) | with_reducible refine Kv7_ck ?_ | with_reducible refine Kv7_ltm ?_ (fun _ _ => ?_) | with_reducible refine Kv7_some ?_ | with_reducible refine Kv7_bo (fun _ => ?_) | with_reducible refine Kv7_T ?_ (fun _ _ _ => ?_) | with_reducible refine Kv7_H ?_ (fun _ _ _ => ?_) (fun _ _ => ?_) | with_reducible exact yv7_hb_Cm_predefinedOf_53 (by assumption) | with_reducible exact yv7_hb_Cm_predefinedOf_54 (by assumption) | with_reducible refine Kv7_ltv (fun _ => ?_) | with_reducible refine Kv7_I ?_ (by decide) | with_reducible refine Kv7_A ?_ trivial | with_reducible refine Kv7_J ?_ | with_reducible refine Kv7_L ?_)
theorem yv7_hb_Cm_predefinedOf_0 {G : Unit} {v1 : Int32} {v2 : Int32} (h : Kv7c u0 u)  : Kv7E u0 (hb_Cm_predefinedOf_0 N G u v1 v2) := by
  unfold hb_Cm_predefinedOf_0
  repeat' (first | with_reducible assumption | with_reducible refine Kv7_br ?_ ?_ | with_reducible refine Kv7_bnd ?_ (fun _ _ _ => ?_) | with_reducible refine Kv7_ck ?_ | with_reducible refine Kv7_ltm ?_ (fun _ _ => ?_) | with_reducible refine Kv7_some ?_ | with_reducible refine Kv7_bo (fun _ => ?_) | with_reducible refine Kv7_T ?_ (fun _ _ _ => ?_) | with_reducible refine Kv7_H ?_ (fun _ _ _ => ?_) (fun _ _ => ?_) | with_reducible exact yv7_hb_Cm_predefinedOf_27 (by assumption) | with_reducible exact yv7_hm_Wo_seekIn (by assumption) | with_reducible refine Kv7_ltv (fun _ => ?_) | with_reducible refine Kv7_I ?_ (by decide) | with_reducible refine Kv7_A ?_ trivial | with_reducible refine Kv7_J ?_ | with_reducible refine Kv7_L ?_)
theorem yv7_hm_Cm_predefinedOf {v1 : Int32} {v2 : Int32} (h : Kv7c u0 u)  : Kv7E u0 (hm_Cm_predefinedOf N u v1 v2) := by
  unfold hm_Cm_predefinedOf
  exact yv7_hb_Cm_predefinedOf_0 h
theorem yv7_hb_Cm_bind_32 {G : Unit} (h : Kv7c u0 u)  : Kv7E u0 (hb_Cm_bind_32 N G u) := by
  unfold hb_Cm_bind_32
  repeat' (first | with_reducible assumption | with_reducible refine Kv7_br ?_ ?_ | with_reducible refine Kv7_bnd ?_ (fun _ _ _ => ?_) | with_reducible refine Kv7_ck ?_ | with_reducible refine Kv7_ltm ?_ (fun _ _ => ?_) | with_reducible refine Kv7_some ?_ | with_reducible refine Kv7_bo (fun _ => ?_) | with_reducible refine Kv7_T ?_ (fun _ _ _ => ?_) | with_reducible refine Kv7_H ?_ (fun _ _ _ => ?_) (fun _ _ => ?_) | with_reducible refine Kv7_ltv (fun _ => ?_) | with_reducible refine Kv7_I ?_ (by decide) | with_reducible refine Kv7_A ?_ trivial | with_reducible refine Kv7_J ?_ | with_reducible refine Kv7_L ?_)
theorem yv7_hb_Cm_bind_0 {G : Unit} {v1 : Int32} (h : Kv7c u0 u)  : Kv7E u0 (hb_Cm_bind_0 N G u v1) := by
  unfold hb_Cm_bind_0
  repeat' (first | with_reducible assumption | with_reducible refine Kv7_br ?_ ?_ | with_reducible refine Kv7_bnd ?_ (fun _ _ _ => ?_) | with_reducible refine Kv7_ck ?_ | with_reducible refine Kv7_ltm ?_ (fun _ _ => ?_) | with_reducible refine Kv7_some ?_ | with_reducible refine Kv7_bo (fun _ => ?_) | with_reducible refine Kv7_T ?_ (fun _ _ _ => ?_) | with_reducible refine Kv7_H ?_ (fun _ _ _ => ?_) (fun _ _ => ?_) | with_reducible exact yv7_hb_Cm_bind_32 (by assumption) | with_reducible refine Kv7_ltv (fun _ => ?_) | with_reducible refine Kv7_I ?_ (by decide) | with_reducible refine Kv7_A ?_ trivial | with_reducible refine Kv7_J ?_ | with_reducible refine Kv7_L ?_)
theorem yv7_hm_Cm_bind {v1 : Int32} (h : Kv7c u0 u)  : Kv7E u0 (hm_Cm_bind N u v1) := by
  unfold hm_Cm_bind
  exact yv7_hb_Cm_bind_0 h
end
