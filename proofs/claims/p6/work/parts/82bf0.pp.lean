set_option maxRecDepth 100000
def PK {α : Type} (Q : MS → α → Prop) (o : Option (MS × α)) : Prop := ∀ w r, o = some (w, r) → Q w r
def PP {α β : Type} (Q : MS → α → MS → β → Prop) (a : Option (MS × α)) (b : Option (MS × β)) : Prop := ∀ m z w r, a = some (m, z) → b = some (w, r) → Q m z w r
section
variable {α β γ δ : Type} {Q Q2 : MS → α → Prop} {R R2 : MS → α → MS → β → Prop} {u w m : MS} {a p q : Option (MS × α)} {b x y : Option (MS × β)}
theorem pk_none : PK Q none := fun _ _ e => by cases e
theorem pk_some {r : α} (h : Q w r) : PK Q (some (w, r)) := fun _ _ e => by injection e with e; injection e with e1 e2; rw [← e1, ← e2]; exact h
theorem pk_br {c : Bool} (h1 : c = true → PK Q p) (h2 : c = false → PK Q q) : PK Q (br c p q) := by
  cases c
  · exact h2 rfl
  · exact h1 rfl
theorem pk_ck {c : Bool} (h : c = true → PK Q p) : PK Q (ck c p) := by
  cases c
  · exact pk_none
  · exact h rfl
theorem pk_lt {c : γ} {f : γ → Option (MS × α)} (h : PK Q (f c)) : PK Q (lt c f) := h
theorem pk_bnd {o : Option (MS × γ)} {f : MS → γ → Option (MS × α)} (h : PK (fun w r => PK Q (f w r)) o) : PK Q (bnd o f) := by
  cases o with
  | none => exact pk_none
  | some t => exact h t.1 t.2 rfl
theorem pk_bo {o : Option γ} {f : γ → Option (MS × α)} (h : ∀ j, o = some j → PK Q (f j)) : PK Q (bo o f) := by
  cases o with
  | none => exact pk_none
  | some t => exact h t rfl
theorem pk_mo (h : PK Q a) (k : ∀ w r, Q w r → Q2 w r) : PK Q2 a := fun w r e => k w r (h w r e)
theorem pk_ok (h : OK Q a) : PK Q a := fun w r e => by
  obtain ⟨w2, r2, e2, q⟩ := h
  rw [e2] at e
  injection e with e
  injection e with e1 e2
  rw [← e1, ← e2]
  exact q
theorem pk_and (h1 : PK Q a) (h2 : PK Q2 a) : PK (fun w r => Q w r ∧ Q2 w r) a := fun w r e => ⟨h1 w r e, h2 w r e⟩
theorem pp_end {z : α} {r : β} (h : R m z w r) : PP R (some (m, z)) (some (w, r)) := fun _ _ _ _ e1 e2 => by
  injection e1 with e1; injection e1 with a1 a2; injection e2 with e2; injection e2 with b1 b2
  rw [← a1, ← a2, ← b1, ← b2]; exact h
theorem pp_l {z : α} (h : PK (fun w r => R m z w r) b) : PP R (some (m, z)) b := fun _ _ w r e1 e2 => by
  injection e1 with e1; injection e1 with a1 a2
  rw [← a1, ← a2]; exact h w r e2
theorem pp_r {r : β} (h : PK (fun m z => R m z w r) a) : PP R a (some (w, r)) := fun m z _ _ e1 e2 => by
  injection e2 with e2; injection e2 with b1 b2
  rw [← b1, ← b2]; exact h m z e1
theorem pp_mo (h : PP R a b) (k : ∀ m z w r, R m z w r → R2 m z w r) : PP R2 a b := fun m z w r e1 e2 => k m z w r (h m z w r e1 e2)
theorem pp_nl : PP R none b := fun _ _ _ _ e => by cases e
theorem pp_nr : PP R a none := fun _ _ _ _ _ e => by cases e
theorem l_br {c : Bool} (h1 : c = true → PP R p b) (h2 : c = false → PP R q b) : PP R (br c p q) b := by
  cases c
  · exact h2 rfl
  · exact h1 rfl
theorem l_ck {c : Bool} (h : c = true → PP R p b) : PP R (ck c p) b := by
  cases c
  · exact pp_nl
  · exact h rfl
theorem l_lt {c : γ} {f : γ → Option (MS × α)} (h : PP R (f c) b) : PP R (lt c f) b := h
theorem l_bnd {o : Option (MS × γ)} {f : MS → γ → Option (MS × α)} (h : PK (fun w r => PP R (f w r) b) o) : PP R (bnd o f) b := by
  cases o with
  | none => exact pp_nl
  | some t => exact h t.1 t.2 rfl
theorem r_br {c : Bool} (h1 : c = true → PP R a x) (h2 : c = false → PP R a y) : PP R a (br c x y) := by
  cases c
  · exact h2 rfl
  · exact h1 rfl
theorem r_ck {c : Bool} (h : c = true → PP R a x) : PP R a (ck c x) := by
  cases c
  · exact pp_nr
  · exact h rfl
theorem r_lt {c : γ} {f : γ → Option (MS × β)} (h : PP R a (f c)) : PP R a (lt c f) := h
theorem r_bnd {o : Option (MS × γ)} {f : MS → γ → Option (MS × β)} (h : PK (fun w r => PP R a (f w r)) o) : PP R a (bnd o f) := by
  cases o with
  | none => exact pp_nr
  | some t => exact h t.1 t.2 rfl
theorem pp_bb {o : Option (MS × γ)} {f : MS → γ → Option (MS × α)} {t : Option (MS × δ)} {g : MS → δ → Option (MS × β)} (h : PP (fun m z w r => PP R (f m z) (g w r)) o t) : PP R (bnd o f) (bnd t g) := by
  cases o with
  | none => exact pp_nl
  | some c =>
    cases t with
    | none => exact pp_nr
    | some d => exact h c.1 c.2 d.1 d.2 rfl rfl
end
section
variable {α β γ δ : Type} {Q : MS → α ⊕ Nat → Prop} {R : MS → α ⊕ Nat → MS → β → Prop} {u w m : MS} {b x y : Option (MS × β)}
theorem pk_bT {o : Option (MS × (γ ⊕ Nat))} {f : MS → γ → Option (MS × (α ⊕ Nat))} (h1 : ∀ w r, o = some (w, .inl r) → PK Q (f w r)) (h2 : ∀ w k, o = some (w, .inr k) → Q w (.inr k)) : PK Q (bTm o f) := by
  cases o with
  | none => exact pk_none
  | some t =>
    obtain ⟨w, z⟩ := t
    cases z with
    | inl r => exact h1 w r rfl
    | inr k => exact pk_some (h2 w k rfl)
theorem l_bT {o : Option (MS × (γ ⊕ Nat))} {f : MS → γ → Option (MS × (α ⊕ Nat))} (h1 : ∀ w r, o = some (w, .inl r) → PP R (f w r) b) (h2 : ∀ w k, o = some (w, .inr k) → PK (fun v r => R w (.inr k) v r) b) : PP R (bTm o f) b := by
  cases o with
  | none => exact pp_nl
  | some t =>
    obtain ⟨w, z⟩ := t
    cases z with
    | inl r => exact h1 w r rfl
    | inr k => exact pp_l (h2 w k rfl)
theorem pp_bT {o : Option (MS × (γ ⊕ Nat))} {f : MS → γ → Option (MS × (α ⊕ Nat))} {t : Option (MS × δ)} {g : MS → δ → Option (MS × β)} (h : PP (fun m z w r => match z with
    | .inl v => PP R (f m v) (g w r)
    | .inr k => PK (fun v s => R m (.inr k) v s) (g w r)) o t) : PP R (bTm o f) (bnd t g) := by
  cases o with
  | none => exact pp_nl
  | some c =>
    cases t with
    | none => exact pp_nr
    | some d =>
      obtain ⟨m, z⟩ := c
      have := h m z d.1 d.2 rfl rfl
      cases z with
      | inl v => exact this
      | inr k => exact pp_l this
end
