/-! what is known behind a step goes along -/
set_option maxRecDepth 100000
/-- only where P holds -/
noncomputable def rsc {γ : Type} (P : Prop) (x : Option γ) : Option γ := @ite _ P (Classical.propDecidable P) x none
section
variable {α β γ : Type} {P : Prop} {Q : MS → α → MS → β → Prop} {x : Option (MS × α)} {z : Option (MS × β)} {o : Option (MS × γ)}
theorem rsc_t {y : Option γ} (h : P) : rsc P y = y := @if_pos _ (Classical.propDecidable P) h _ _ _
theorem rsc_f {y : Option γ} (h : ¬ P) : rsc P y = none := @if_neg _ (Classical.propDecidable P) h _ _ _
theorem pp_cll (h : P → PP Q x z) : PP Q (rsc P x) z := by
  rcases Classical.em P with c | c
  · rw [rsc_t c]; exact h c
  · rw [rsc_f c]; exact pp_nl
theorem pp_clr (h : P → PP Q x z) : PP Q x (rsc P z) := by
  rcases Classical.em P with c | c
  · rw [rsc_t c]; exact h c
  · rw [rsc_f c]; exact pp_nr
/-- on the left -/
theorem l_cl {K : MS → γ → Option (MS × α)} {S : MS → γ → Prop} (hs : PK S o) (h : PP Q (bnd o (fun u r => rsc (S u r) (K u r))) z) : PP Q (bnd o K) z := by
  cases o with
  | none => exact h
  | some y =>
    obtain ⟨u, r⟩ := y
    have hh : PP Q (rsc (S u r) (K u r)) z := h
    rw [rsc_t (hs u r rfl)] at hh
    exact hh
/-- on the right -/
theorem r_cl {K : MS → γ → Option (MS × β)} {S : MS → γ → Prop} (hs : PK S o) (h : PP Q x (bnd o (fun u r => rsc (S u r) (K u r)))) : PP Q x (bnd o K) := by
  cases o with
  | none => exact h
  | some y =>
    obtain ⟨u, r⟩ := y
    have hh : PP Q x (rsc (S u r) (K u r)) := h
    rw [rsc_t (hs u r rfl)] at hh
    exact hh
end
/-- the loop of goOn, only as long as Sf holds of its states -/
noncomputable def q206 (Sf : MS → Int32 → Prop) (N : Nat) (G : MS → Nat → Int32 → Option (MS × Int32)) (u : MS) (p : Nat) (v3 : Int32) : Option (MS × Int32) := rsc (Sf u v3) (hb_Ma_goOn_206 N G u p v3)
noncomputable def q195 (Sf : MS → Int32 → Prop) (N : Nat) (G : MS → Nat → Int32 → Option (MS × Int32)) (u : MS) (p : Nat) (v3 : Int32) : Option (MS × Int32) := rsc (Sf u v3) (br (decide ((u.1 1109) = 0)) (q206 Sf N G u p v3) (bnd (hm_Ma_raise N u p) (fun u10 _ => q206 Sf N G u10 p v3)))
noncomputable def q67 (Sf : MS → Int32 → Prop) (N : Nat) (G : MS → Nat → Int32 → Option (MS × Int32)) (u : MS) (p : Nat) (v3 : Int32) : Option (MS × Int32) := br (decide (1000000000 ≤ v3)) (hb_Ma_goOn_219 N G u p) (br (decide ((u.1 (pq p 9)) = 0)) (br (decide ((u.1 1108) = 0)) (bnd (hm_Co_at N u (u.1 1105)) (fun u17 r17 => br (decide (r17 = 39)) (bnd (hm_Co_at N u17 ((u17.1 1105) + 1)) (fun u29 r29 => bnd (hm_Ma_predefined N u29 p r29) (fun u31 r31 => q195 Sf N G u31 p (v3)))) (br (decide (r17 = 40)) (bnd (hm_Co_at N u17 ((u17.1 1105) + 1)) (fun u24 r24 => bnd (hm_Ma_toward N u24 p r24) (fun u26 r26 => q195 Sf N G u26 p (v3)))) (br (decide (8 ≤ r17)) (br (decide (18 ≤ r17)) (bnd (hm_Ma_flow N u17 p r17) (fun u19 r19 => q195 Sf N G u19 p (v3))) (bnd (hm_Ma_value N u17 p r17) (fun u20 r20 => q195 Sf N G u20 p (v3)))) (bnd (hm_Ma_making N u17 p r17) (fun u21 r21 => q195 Sf N G u21 p (v3))))))) (hb_Ma_goOn_219 N G u p)) (hb_Ma_goOn_219 N G u p))
noncomputable def qgo (Sf : MS → Int32 → Prop) (N : Nat) : Nat → (MS → Nat → Int32 → Option (MS × Int32))
  | 0 => fun _ _ _ => none
  | n + 1 => q67 Sf N (qgo Sf N n)
