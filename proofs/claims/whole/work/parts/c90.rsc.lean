/-! what is known behind a step goes along -/
set_option maxRecDepth 100000
/-- only where P holds -/
noncomputable def rsc {γ : Type} (P : Prop) (x : Option γ) : Option γ := @ite _ P (Classical.propDecidable P) x none
section
variable {α β γ : Type} {P : Prop} {Q : MS → α → MS → β → Prop} {x : Option (MS × α)} {z : Option (MS × β)} {o : Option (MS × γ)}
theorem rsc_t {y : Option γ} (h : P) : rsc P y = y := @if_pos _ (Classical.propDecidable P) h _ _ _
theorem rsc_f {y : Option γ} (h : ¬ P) : rsc P y = none := @if_neg _ (Classical.propDecidable P) h _ _ _
theorem pp_cll (h : P → PP Q x z) : PP Q (rsc P x) z := by
  rcases Classical.em P with c | c
  · rw [rsc_t c]; exact h c
  · rw [rsc_f c]; exact pp_nl
theorem pp_clr (h : P → PP Q x z) : PP Q x (rsc P z) := by
  rcases Classical.em P with c | c
  · rw [rsc_t c]; exact h c
  · rw [rsc_f c]; exact pp_nr
/-- on the left -/
theorem l_cl {K : MS → γ → Option (MS × α)} {S : MS → γ → Prop} (hs : PK S o) (h : PP Q (bnd o (fun u r => rsc (S u r) (K u r))) z) : PP Q (bnd o K) z := by
  cases o with
  | none => exact h
  | some y =>
    obtain ⟨u, r⟩ := y
    have hh : PP Q (rsc (S u r) (K u r)) z := h
    rw [rsc_t (hs u r rfl)] at hh
    exact hh
/-- on the right -/
theorem r_cl {K : MS → γ → Option (MS × β)} {S : MS → γ → Prop} (hs : PK S o) (h : PP Q x (bnd o (fun u r => rsc (S u r) (K u r)))) : PP Q x (bnd o K) := by
  cases o with
  | none => exact h
  | some y =>
    obtain ⟨u, r⟩ := y
    have hh : PP Q x (rsc (S u r) (K u r)) := h
    rw [rsc_t (hs u r rfl)] at hh
    exact hh
end
