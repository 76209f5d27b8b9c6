set_option maxRecDepth 100000
def Kic (u w : MS) : Prop := (∀ k, k ≠ 3 → k ≠ 5 → w.1 k = u.1 k) ∧ ∀ k, k ≠ 4 → w.2.2.1 k = u.2.2.1 k
def KiE {α : Type} (u : MS) (o : Option (MS × α)) : Prop := ∀ w r, o = some (w, r) → Kic u w
section
variable {α β : Type} {u0 u w : MS} {k : Nat}
theorem Ki_none : KiE u0 (none : Option (MS × α)) := fun _ _ e => by cases e
theorem Ki_some {r : α} (h : Kic u0 w) : KiE u0 (some (w, r)) := fun _ _ e => by injection e with e; injection e with e1 _; exact e1 ▸ h
theorem Ki_br {b : Bool} {p q : Option (MS × α)} (h1 : KiE u0 p) (h2 : KiE u0 q) : KiE u0 (br b p q) := by cases b <;> assumption
theorem Ki_ck {b : Bool} {p : Option (MS × α)} (h1 : KiE u0 p) : KiE u0 (ck b p) := by
  cases b
  · exact Ki_none
  · exact h1
theorem Ki_bo {o : Option β} {f : β → Option (MS × α)} (h : ∀ j, KiE u0 (f j)) : KiE u0 (bo o f) := by
  cases o with
  | none => exact Ki_none
  | some j => exact h j
theorem Ki_bnd {o : Option (MS × β)} {f : MS → β → Option (MS × α)} (h1 : KiE u0 o) (h2 : ∀ w r, Kic u0 w → KiE u0 (f w r)) : KiE u0 (bnd o f) := by
  cases o with
  | none => exact Ki_none
  | some x => exact h2 x.1 x.2 (h1 x.1 x.2 rfl)
theorem Ki_T {o : Option (MS × (β ⊕ Nat))} {f : MS → β → Option (MS × (α ⊕ Nat))} (h1 : KiE u0 o) (h2 : ∀ w r, Kic u0 w → KiE u0 (f w r)) : KiE u0 (bTm o f) := by
  cases o with
  | none => exact Ki_none
  | some x =>
    obtain ⟨x, z⟩ := x
    cases z with
    | inl v => exact h2 x v (h1 x _ rfl)
    | inr k => exact Ki_some (h1 x _ rfl)
theorem Ki_H {o : Option (MS × (β ⊕ Nat))} {f : MS → β → Option (MS × α)} {g : MS → Option (MS × α)} (h1 : KiE u0 o) (h2 : ∀ w r, Kic u0 w → KiE u0 (f w r)) (h3 : ∀ w, Kic u0 w → KiE u0 (g w)) : KiE u0 (bHm o f g) := by
  cases o with
  | none => exact Ki_none
  | some x =>
    obtain ⟨x, z⟩ := x
    cases z with
    | inl v => exact h2 x v (h1 x _ rfl)
    | inr k =>
      show KiE u0 (if k = 3 then g x else none)
      split
      · exact h3 x (h1 x _ rfl)
      · exact Ki_none
theorem Ki_ltm {x : MS} {f : MS → Option (MS × α)} (h1 : Kic u0 x) (h2 : ∀ w, Kic u0 w → KiE u0 (f w)) : KiE u0 (lt x f) := h2 x h1
theorem Ki_ltv {x : β} {f : β → Option (MS × α)} (h2 : ∀ y, KiE u0 (f y)) : KiE u0 (lt x f) := h2 x
theorem Ki_I {v : Int32} (h : Kic u0 u) (hk : k = 3 ∨ k = 5) : Kic u0 (upI u k v) := ⟨fun j h1 h2 => (upI_ne (by omega)).trans (h.1 j h1 h2), h.2⟩
theorem Ki_L {v : Int64} (h : Kic u0 u) : Kic u0 (upL u k v) := h
theorem Ki_J {v : Nat → Int64} (h : Kic u0 u) : Kic u0 (upJ u k v) := h
theorem Ki_A {v : Nat → Int32} (h : Kic u0 u) (hk : k = 4) : Kic u0 (upA u k v) := ⟨h.1, fun j hj => (upA_no (by omega)).trans (h.2 j hj)⟩
theorem Ki_rf : Kic u u := ⟨fun _ _ _ => rfl, fun _ _ => rfl⟩
end
section
variable {u0 u : MS} {N : Nat}
theorem yi9_fb_M_feed_76 {G : (MS → Int32 → Int32 → Int32 → Int32 → Int32 → Int32 → Option (MS × Int32))} {v1 : Int32} {v2 : Int32} {v3 : Int32} {v4 : Int32} {v5 : Int32} {v6 : Int32} {t0 : Int32} (h : Kic u0 u) (hG0 : ∀ (u : MS) a0 a1 a2 a3 a4 a5, Kic u0 u → KiE u0 (G u a0 a1 a2 a3 a4 a5)) : KiE u0 (fb_M_feed_76 N G u v1 v2 v3 v4 v5 v6 t0) := by
  unfold fb_M_feed_76
  repeat' (first | with_reducible assumption | with_reducible refine Ki_br ?_ ?_ | with_reducible refine Ki_bnd ?_ (fun _ _ _ => ?_) | with_reducible refine Ki_ck ?_ | with_reducible refine Ki_ltm ?_ (fun _ _ => ?_) | with_reducible refine Ki_some ?_ | with_reducible refine Ki_bo (fun _ => ?_) | with_reducible refine Ki_T ?_ (fun _ _ _ => ?_) | with_reducible refine Ki_H ?_ (fun _ _ _ => ?_) (fun _ _ => ?_) | with_reducible exact hG0 _ _ _ _ _ _ _ (by assumption) | with_reducible refine Ki_ltv (fun _ => ?_) | with_reducible refine Ki_I ?_ (by decide) | with_reducible refine Ki_A ?_ (by decide) | with_reducible refine Ki_J ?_ | with_reducible refine Ki_L ?_)
theorem yi9_fb_M_feed_23 {G : (MS → Int32 → Int32 → Int32 → Int32 → Int32 → Int32 → Option (MS × Int32))} {v1 : Int32} {v2 : Int32} {v3 : Int32} {v4 : Int32} {v5 : Int32} {v6 : Int32} (h : Kic u0 u) (hG0 : ∀ (u : MS) a0 a1 a2 a3 a4 a5, Kic u0 u → KiE u0 (G u a0 a1 a2 a3 a4 a5)) : KiE u0 (fb_M_feed_23 N G u v1 v2 v3 v4 v5 v6) := by
  unfold fb_M_feed_23
  repeat' (first | with_reducible assumption | with_reducible refine Ki_br ?_ ?_ | with_reducible refine Ki_bnd ?_ (fun _ _ _ => ?_) | with_reducible refine Ki_ck ?_ | with_reducible refine Ki_ltm ?_ (fun _ _ => ?_) | with_reducible refine Ki_some ?_ | with_reducible refine Ki_bo (fun _ => ?_) | with_reducible refine Ki_T ?_ (fun _ _ _ => ?_) | with_reducible refine Ki_H ?_ (fun _ _ _ => ?_) (fun _ _ => ?_) | with_reducible exact yi9_fb_M_feed_76 (by assumption) hG0 | with_reducible exact hG0 _ _ _ _ _ _ _ (by assumption) | with_reducible refine Ki_ltv (fun _ => ?_) | with_reducible refine Ki_I ?_ (by decide) | with_reducible refine Ki_A ?_ (by decide) | with_reducible refine Ki_J ?_ | with_reducible refine Ki_L ?_)
theorem yi9_fb_M_feed_0 {G : (MS → Int32 → Int32 → Int32 → Int32 → Int32 → Int32 → Option (MS × Int32))} {v1 : Int32} {v2 : Int32} {v3 : Int32} {v4 : Int32} {v5 : Int32} (h : Kic u0 u) (hG0 : ∀ (u : MS) a0 a1 a2 a3 a4 a5, Kic u0 u → KiE u0 (G u a0 a1 a2 a3 a4 a5)) : KiE u0 (fb_M_feed_0 N G u v1 v2 v3 v4 v5) := by
  unfold fb_M_feed_0
  repeat' (first | with_reducible assumption | with_reducible refine Ki_br ?_ ?_ | with_reducible refine Ki_bnd ?_ (fun _ _ _ => ?_) | with_reducible refine Ki_ck ?_ | with_reducible refine Ki_ltm ?_ (fun _ _ => ?_) | with_reducible refine Ki_some ?_ | with_reducible refine Ki_bo (fun _ => ?_) | with_reducible refine Ki_T ?_ (fun _ _ _ => ?_) | with_reducible refine Ki_H ?_ (fun _ _ _ => ?_) (fun _ _ => ?_) | with_reducible exact hG0 _ _ _ _ _ _ _ (by assumption) | with_reducible refine Ki_ltv (fun _ => ?_) | with_reducible refine Ki_I ?_ (by decide) | with_reducible refine Ki_A ?_ (by decide) | with_reducible refine Ki_J ?_ | with_reducible refine Ki_L ?_)
theorem yi9_gg_M_feed  (n : Nat) : (∀ (u : MS) a0 a1 a2 a3 a4 a5, Kic u0 u → KiE u0 ((gg_M_feed N n) u a0 a1 a2 a3 a4 a5)) := by
  induction n with
  | zero => exact fun _ _ _ _ _ _ _ _ => Ki_none
  | succ n ih => exact fun _ _ _ _ _ _ _ h => yi9_fb_M_feed_23 (N := N) h ih
theorem yi9_fm_M_feed {v1 : Int32} {v2 : Int32} {v3 : Int32} {v4 : Int32} {v5 : Int32} (h : Kic u0 u)  : KiE u0 (fm_M_feed N u v1 v2 v3 v4 v5) := by
  unfold fm_M_feed
  exact yi9_fb_M_feed_0 h ((yi9_gg_M_feed N))
theorem yi9_fb_M_back_17 {G : Unit} (h : Kic u0 u)  : KiE u0 (fb_M_back_17 N G u) := by
  unfold fb_M_back_17
  repeat' (first | with_reducible assumption | with_reducible refine Ki_br ?_ ?_ | with_reducible refine Ki_bnd ?_ (fun _ _ _ => ?_) | with_reducible refine Ki_ck ?_ | with_reducible refine Ki_ltm ?_ (fun _ _ => ?_) | with_reducible refine Ki_some ?_ | with_reducible refine Ki_bo (fun _ => ?_) | with_reducible refine Ki_T ?_ (fun _ _ _ => ?_) | with_reducible refine Ki_H ?_ (fun _ _ _ => ?_) (fun _ _ => ?_) | with_reducible refine Ki_ltv (fun _ => ?_) | with_reducible refine Ki_I ?_ (by decide) | with_reducible refine Ki_A ?_ (by decide) | with_reducible refine Ki_J ?_ | with_reducible refine Ki_L ?_)
theorem yi9_fb_M_back_0 {G : Unit} {v1 : Int32} (h : Kic u0 u)  : KiE u0 (fb_M_back_0 N G u v1) := by
  unfold fb_M_back_0
  repeat' (first | with_reducible assumption | with_reducible refine Ki_br ?_ ?_ | with_reducible refine Ki_bnd ?_ (fun _ _ _ => ?_) | with_reducible refine Ki_ck ?_ | with_reducible refine Ki_ltm ?_ (fun _ _ => ?_) | with_reducible refine Ki_some ?_ | with_reducible refine Ki_bo (fun _ => ?_) | with_reducible refine Ki_T ?_ (fun _ _ _ => ?_) | with_reducible refine Ki_H ?_ (fun _ _ _ => ?_) (fun _ _ => ?_) | with_reducible exact yi9_fb_M_back_17 (by assumption) | with_reducible refine Ki_ltv (fun _ => ?_) | with_reducible refine Ki_I ?_ (by decide) | with_reducible refine Ki_A ?_ (by decide) | with_reducible refine Ki_J ?_ | with_reducible refine Ki_L ?_)
theorem yi9_fm_M_back {v1 : Int32} (h : Kic u0 u)  : KiE u0 (fm_M_back N u v1) := by
  unfold fm_M_back
  exact yi9_fb_M_back_0 h
end
