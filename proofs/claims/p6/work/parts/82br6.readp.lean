set_option maxRecDepth 100000
def TKH (N : Nat) (m w : MS) (K : Nat → Nat) (T : Nat) (nm Nk : Nat → Nat) (pd : Int32 → Int32 → Nat) : Prop := CTZ m w K T nm Nk ∧ CTA m w K T ∧ CTP N m w K T pd ∧ (∀ a : Nat, ((a : Nat) : Int) < F w 14 → ∀ y, PDF N m w (I (a : Nat)) y (pd (I (a : Nat)) y)) ∧ m.1 22 = w.1 14 ∧ (K T = 0 → (m.1 85 ≤ 1500 ↔ w.1 9 ≤ 1500)) ∧ m.1 85 = I (T : Nat)
def pS0 (m : MS) : MS := upI (upI (upI (upI (upI (upI (upI (upI m 306 0) 441 1) 442 0) 449 0) 664 0) 665 0) 666 0) 667 0
def pW0 (w : MS) : MS := upI (upI (upI (upI (upI (upI (upI (upI (upI (upI w 69 0) 70 0) 32 0) 39 0) 46 0) 52 0) 56 0) 58 0) 66 0) 73 0
section
variable {m w m9 w13 : MS} {K nm Nk : Nat → Nat} {T N k : Nat} {pd : Int32 → Int32 → Nat}
theorem pS0_i (h : k ∉ [306, 441, 442, 449, 664, 665, 666, 667]) : (pS0 m).1 k = m.1 k := by
  simp only [List.mem_cons, List.not_mem_nil, or_false, not_or] at h
  obtain ⟨h1, h2, h3, h4, h5, h6, h7, h8⟩ := h
  unfold pS0
  rw [upI_ne h8, upI_ne h7, upI_ne h6, upI_ne h5, upI_ne h4, upI_ne h3, upI_ne h2, upI_ne h1]
theorem pS0_0 (h : k ∈ [306, 442, 449, 664, 665, 666, 667]) : (pS0 m).1 k = 0 := by
  simp only [List.mem_cons, List.not_mem_nil, or_false] at h
  rcases h with rfl | rfl | rfl | rfl | rfl | rfl | rfl <;> rfl
theorem pW0_i (h : k ∉ [69, 70, 32, 39, 46, 52, 56, 58, 66, 73]) : (pW0 w).1 k = w.1 k := by
  simp only [List.mem_cons, List.not_mem_nil, or_false, not_or] at h
  obtain ⟨h1, h2, h3, h4, h5, h6, h7, h8, h9, h10⟩ := h
  unfold pW0
  rw [upI_ne h10, upI_ne h9, upI_ne h8, upI_ne h7, upI_ne h6, upI_ne h5, upI_ne h4, upI_ne h3, upI_ne h2, upI_ne h1]
theorem pW0_0 (h : k ∈ [69, 70, 32, 39, 46, 52, 56, 58, 66, 73]) : (pW0 w).1 k = 0 := by
  simp only [List.mem_cons, List.not_mem_nil, or_false] at h
  rcases h with rfl | rfl | rfl | rfl | rfl | rfl | rfl | rfl | rfl | rfl <;> rfl
theorem prs_pp (th : TKH N m w K T nm Nk pd) (kT : K T = 0) (h67 : w.1 67 = 0) (h72 : w.1 72 = 0) (h75 : w.1 75 = 0) : PP (PRZ N m w K T nm pd (pS0 m) (pW0 w)) (hm_Pa_parse N m) (fm_M_program N w) := by
  obtain ⟨c, cA, cP, -⟩ := th
  have c45 : ∀ p, p ≤ T → K p ≠ 45 := fun p hp => by
    by_cases e : p = T
    · rw [e, kT]; decide
    · have := (c.1.1.2.1 p (by omega)).2
      omega
  show PP _ (hb_Pa_parse_0 N (hg_Pa_parse N N) m) (fb_M_program_0 N (gg_M_program N N) w)
  have e1 : hb_Pa_parse_0 N (hg_Pa_parse N N) m = hg_Pa_parse N N (pS0 m) 0 := rfl
  have e2 : fb_M_program_0 N (gg_M_program N N) w = gg_M_program N N (pW0 w) 1 := rfl
  rw [e1, e2]
  have kc : Kcc m (pS0 m) := ⟨fun k hk => pS0_i (by simp only [List.mem_cons, List.not_mem_nil, or_false, not_or]; omega), fun _ _ => rfl⟩
  have kt : Ktc w (pW0 w) := ⟨fun k hk => pW0_i (by
    have : ∀ k, k ∈ TIN → k ∉ [69, 70, 32, 39, 46, 52, 56, 58, 66, 73] := by decide
    exact this k hk), fun _ _ => rfl⟩
  have nd : ND (pW0 w) := ⟨0, pW0_0 (by decide), by decide⟩
  have pg : PGI N m w K T nm pd (pS0 m) (pW0 w) 0 0 0 (fun _ => (0, 0, 0, 0, (0, 0, 0, 0, false, false, fun _ => False), [])) (pS0 m) (pW0 w) := by
    refine ⟨⟨⟨kc, kt, pS0_0 (by decide), pW0_0 (by decide), Nat.zero_le _, ?_, ?_⟩, Nat.zero_le _, pS0_0 (by decide), Nat.zero_le _⟩, ⟨⟨fun _ _ => rfl, fun _ _ => rfl, fun _ _ _ _ _ => rfl⟩, pS0_0 (by decide), pW0_0 (by decide), fun f hf => absurd hf (by omega)⟩, fun _ _ => rfl, ⟨fun z => ⟨z, fun f hf => absurd hf (by omega)⟩, fun z => z.1⟩, ⟨fun z => ⟨z, fun f hf => absurd hf (by omega)⟩, fun z => z.1⟩, CSZ_q (CSZ_rf nd) (fun x => ⟨False.elim, fun ⟨f, hf, _⟩ => absurd hf (by omega)⟩), fun f hf => absurd hf (by omega)⟩
    · rw [pS0_0 (by decide), pW0_0 (by decide)]
    · rw [pW0_i (by decide)]; exact h67
  cases N with
  | zero => exact pp_nl
  | succ N =>
  show PP _ (hb_Pa_parse_36 (N + 1) (hg_Pa_parse (N + 1) N) (pS0 m) 0) _
  unfold hb_Pa_parse_36
  rw [show decide ((4000 : Int32) < 0) = false from rfl, br_fq, show decide ((0 : Int32) = 0) = true from rfl, br_tq, show (0 : Int32) = I ((0 : Nat) : Int) from rfl]
  exact pg_lp (bq := 0) c cA c45 cP (pW0_0 (by decide)) (pW0_0 (by decide)) (by rw [pW0_i (by decide)]; exact h75) (by decide) N (N + 1) 0 (pS0 m) (pW0 w) 0 0 _ pg (Or.inl rfl)
end
