set_option maxRecDepth 100000
def ALX (N : Nat) (m0 w0 : MS) (K : Nat → Nat) (T : Nat) (nm Nk : Nat → Nat) (d : Nat) : Prop := HE N m0 w0 K T nm Nk d ∧ HBh N m0 w0 K T nm Nk d ∧ HSi N m0 w0 K T nm Nk d ∧ HWo N m0 w0 K T nm Nk d ∧ HPr N m0 w0 K T nm Nk d ∧ HAg N m0 w0 K T nm Nk d ∧ HAl N m0 w0 K T nm Nk d ∧ HRo N m0 w0 K T nm Nk d ∧ HBl N m0 w0 K T nm Nk d ∧ HFu N m0 w0 K T nm Nk d ∧ HBo N m0 w0 K T nm Nk d ∧ HGc N m0 w0 K T nm Nk d ∧ (∀ cs, HPa N m0 w0 K T nm Nk cs d) ∧ HCl N m0 w0 K T nm Nk d
section
variable {m0 w0 : MS} {K nm Nk : Nat → Nat} {T N : Nat}
theorem ALX_0 : ALX N m0 w0 K T nm Nk 0 := ⟨fun _ _ _ _ _ _ _ _ _ _ _ _ _ _ _ _ => pp_nr, fun _ _ _ _ _ _ _ _ _ _ _ _ _ _ _ _ => pp_nr, fun _ _ _ _ _ _ _ _ _ _ _ _ _ _ _ _ => pp_nr, fun _ _ _ _ _ _ _ _ _ _ _ _ _ _ _ _ => pp_nr, fun _ _ _ _ _ _ _ _ _ _ _ _ _ _ _ _ => pp_nr, fun _ _ _ _ _ _ _ _ _ _ _ _ _ _ _ _ _ => pp_nr, fun _ _ _ _ _ _ _ _ _ _ _ _ _ _ _ _ _ => pp_nr, fun _ _ _ _ _ _ _ _ _ _ _ _ _ _ _ _ => ⟨fun _ => pp_nr, fun _ => pp_nr⟩, fun _ _ _ _ _ _ _ _ _ _ _ _ _ _ _ _ _ _ => pp_nr, fun _ _ _ _ _ _ _ _ _ _ _ _ _ _ _ _ => pp_nr, fun _ _ _ _ _ _ _ _ _ _ _ _ _ _ _ => pp_nr, fun _ _ _ _ _ _ _ _ _ _ _ _ _ _ _ => pp_nr, fun _ _ _ _ _ _ _ _ _ _ _ _ _ _ _ _ _ _ => pp_nr, fun _ _ _ _ _ _ _ _ _ _ _ _ _ _ _ _ _ _ _ _ _ => pp_nr⟩
theorem ALX_s (c : CTZ m0 w0 K T nm Nk) (cA : CTA m0 w0 K T) (c45 : ∀ p, p ≤ T → K p ≠ 45) : ∀ d, ∀ d', d' ≤ d → ALX N m0 w0 K T nm Nk d'
  | 0, d', h => by
    have : d' = 0 := by omega
    subst this
    exact ALX_0
  | d + 1, d', h => by
    by_cases z : d' ≤ d
    · exact ALX_s c cA c45 d d' z
    · have : d' = d + 1 := by omega
      subst this
      have ih := ALX_s c cA c45 d
      have i := ih d (Nat.le_refl _)
      exact ⟨HE_s c c45 i.2.2.1 i.1, HBh_s c c45 i.2.2.1, HSi_s c c45 i.2.2.2.1 (fun d' h => (ih d' h).2.1), HWo_s c c45 i.2.2.2.2.1, HPr_s c cA c45 i.2.2.2.2.2.1 i.2.2.2.2.2.2.1, HAg_s c c45 i.1, HAl_s c c45 i.1 i.2.2.2.2.2.2.2.1 i.2.2.2.2.2.2.2.2.1 i.2.2.2.2.2.2.2.2.2.1, HRo_s c c45 i.1, HBl_s c c45 (fun d' h => (ih d' h).1) (fun d' h => (ih d' h).2.2.2.2.2.2.2.2.2.2.1) (fun d' h => (ih d' h).2.2.2.2.2.2.2.2.2.2.2.2.1), HFu_s c cA c45 i.2.2.2.2.2.2.2.2.2.2.2.2.2, HBo_s c c45 i.1, HGc_s c c45 i.1, HPa_s c c45 i.2.2.2.2.2.2.2.2.2.2.1 (fun d' h => (ih d' h).2.2.2.2.2.2.2.2.2.2.2.1), HCl_s c c45 i.2.2.2.2.2.2.2.2.2.2.1 (fun d' h => (ih d' h).2.2.2.2.2.2.2.2.2.2.2.1)⟩
theorem ALX_all (c : CTZ m0 w0 K T nm Nk) (cA : CTA m0 w0 K T) (c45 : ∀ p, p ≤ T → K p ≠ 45) (d : Nat) : ALX N m0 w0 K T nm Nk d := ALX_s c cA c45 d d (Nat.le_refl _)
end
