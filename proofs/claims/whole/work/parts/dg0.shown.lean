/-! what has been shown stays alike; shown() answers alike -/
set_option maxRecDepth 100000
section
variable {N : Nat} {m w m2 w2 : MS} {v1 : Int32}
theorem SHW_k (h : SHW m w) (f : KP6 m m2) (g : Kw2c w w2) : SHW m2 w2 := by
  obtain ⟨f1, f2⟩ := f
  obtain ⟨g1, g2⟩ := g
  unfold SHW F at h ⊢
  rw [f1, f2, g1, g2]
  exact h
theorem SHW_3 (h : SHW m w) : SHW m (upI w 3 0) := h
theorem SHW_0 : SHW (mFo xH15) mS0 := by
  have a9 : F (mFo xH15) 9 = 0 := by decide +kernel
  refine ⟨by decide +kernel, by omega, fun i hi => absurd hi (by omega)⟩
theorem shown_e (h : SHW m w) : PP (fun _ r _ s => r = s) (hm_H_shown N m v1) (fm_M_shown N w v1) := by
  obtain ⟨x1, rfl, hx1⟩ : ∃ x1 : Int, v1 = I x1 ∧ (-2147483648 ≤ x1 ∧ x1 < 2147483648) := ⟨v1.toInt, I_of v1, ti_rng v1⟩
  obtain ⟨h1, h2, h3⟩ := h
  unfold hm_H_shown hb_H_shown_0 hb_H_shown_12 fm_M_shown fb_M_shown_0 fb_M_shown_17 fb_M_shown_27
  refine r_lt ?_
  rw [show (upI w 3 0).1 130 = w.1 130 from upI_ne (by decide), ← h1, show (upI w 3 0).2.2.1 129 = w.2.2.1 129 from rfl]
  have e9 : m.1 9 = I (F m 9) := I_F
  have l1 : decide (I x1 < 0) = decide (x1 < 0) := by rw [lit0, decL hx1.1 hx1.2 (by omega) (by omega)]
  have l2 : decide (I x1 < m.1 9) = decide (x1 < F m 9) := by rw [e9, decL hx1.1 hx1.2 (by omega) (by omega)]
  rw [l1, l2]
  by_cases c1 : x1 < 0
  · rw [decide_eq_true c1, br_t, br_t]
    exact pp_end rfl
  rw [decide_eq_false c1, br_f, br_f]
  by_cases c2 : x1 < F m 9
  · rw [decide_eq_true c2, br_t, br_t]
    refine l_ck (fun _ => r_ck (fun _ => pp_end ?_))
    obtain ⟨i, rfl⟩ : ∃ i : Nat, x1 = ((i : Nat) : Int) := ⟨x1.toNat, by omega⟩
    rw [tnI (n := i) rfl (by omega)]
    exact h3 i c2
  · rw [decide_eq_false c2, br_f, br_f]
    exact pp_end rfl
end
