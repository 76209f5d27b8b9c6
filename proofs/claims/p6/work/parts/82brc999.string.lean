set_option maxRecDepth 100000
def sts (g : Nat → Int32) (k : Nat) : Nat → Nat → Nat → Option Nat
  | 0, _, _ => none
  | m + 1, p, i => if sgA g k p = 34 then some i else if sgA g k p < 32 ∨ 126 < sgA g k p then none else sts g k m (p + 1) (i + 1)
theorem strC_loop {N k : Nat} (hk4 : k ≤ 4000) : ∀ (m p i : Nat) (u : CS) (F : Nat), skB u = true → FI u 4 1 = Int32.ofNat k → FI u 4 9 = Int32.ofNat p → i + m = 41 → p + m < 50000 → ∃ u2, gg_To_string N (F + m + 1) u 4 (Int32.ofNat i) = some (u2, if (sts (AI u 5) k m p i).isSome = true then 4 else 45) ∧ skB u2 = true ∧ Fr4 S9 u u2 ∧ ∀ len, sts (AI u 5) k m p i = some len → i ≤ len ∧ len ≤ 40 ∧ FI u2 4 9 = Int32.ofNat (p + (len - i) + 1) := by
  intro m
  induction m with
  | zero =>
    intro p i u F hs hk h9 hi hp
    refine ⟨u, ?_, hs, Fr4.rf, fun len h => by cases h⟩
    show fb_To_string_25 N (gg_To_string N (F + 0)) u 4 _ = _
    unfold fb_To_string_25
    rw [show decide ((40 : Int32) < Int32.ofNat i) = true from decide_eq_true ((q_lt (a := 40) (b := i) (by decide) (by omega)).mpr (by omega))]
    rfl
  | succ m ih =>
    intro p i u F hs hk h9 hi hp
    have s1 := sf_4_9 (v := Int32.ofNat (p + 1)) hs
    have key : ∀ G, fb_To_string_25 N G u 4 (Int32.ofNat i) = br (decide (sgA (AI u 5) k p = 34)) (some (uF u 4 9 (.inl (Int32.ofNat (p + 1))), 4)) (br (decide (sgA (AI u 5) k p < 32)) (some (uF u 4 9 (.inl (Int32.ofNat (p + 1))), 45)) (br (decide (sgA (AI u 5) k p ≤ 126)) (G (uF u 4 9 (.inl (Int32.ofNat (p + 1)))) 4 (Int32.ofNat (i + 1))) (some (uF u 4 9 (.inl (Int32.ofNat (p + 1))), 45)))) := fun G => by
      unfold fb_To_string_25
      rw [show decide ((40 : Int32) < Int32.ofNat i) = false from decide_eq_false (fun z => absurd ((q_lt (a := 40) (b := i) (by decide) (by omega)).mp z) (by omega)), q_b0, gi_4_9 hs, q_bo, q_ck (io_4 hs), h9, atC hs hk hk4 (by omega), q_bx, gi_4_9 hs, q_bo, h9, q_suc, pf_4_9 hs, q_bo, q_suc]
      rfl
    have hd : gg_To_string N (F + (m + 1) + 1) u 4 (Int32.ofNat i) = fb_To_string_25 N (gg_To_string N (F + m + 1)) u 4 (Int32.ofNat i) := rfl
    rw [hd, key]
    by_cases h1 : sgA (AI u 5) k p = 34
    · have e0 : sts (AI u 5) k (m + 1) p i = some i := if_pos h1
      rw [e0, decide_eq_true h1, q_b1]
      refine ⟨_, rfl, s1, Fr4.one rfl, fun len h => ?_⟩
      cases h
      refine ⟨Nat.le_refl _, by omega, ?_⟩
      rw [Nat.sub_self, Nat.add_zero]
      exact fi_4_9 hs
    · rw [decide_eq_false h1, q_b0]
      by_cases h2 : sgA (AI u 5) k p < 32
      · have e0 : sts (AI u 5) k (m + 1) p i = none := by
          show (if _ then _ else if _ then _ else _) = _
          rw [if_neg h1, if_pos (Or.inl h2)]
        rw [e0, decide_eq_true h2, q_b1]
        exact ⟨_, rfl, s1, Fr4.one rfl, fun len h => by cases h⟩
      · rw [decide_eq_false h2, q_b0]
        by_cases h3 : sgA (AI u 5) k p ≤ 126
        · have e0 : sts (AI u 5) k (m + 1) p i = sts (AI u 5) k m (p + 1) (i + 1) := by
            show (if _ then _ else if _ then _ else _) = _
            rw [if_neg h1, if_neg (fun z => by rcases z with z | z; exact h2 z; exact absurd h3 (Int32.not_le.mpr z))]
          rw [e0, decide_eq_true h3, q_b1]
          obtain ⟨u2, a1, a2, a3, a4⟩ := ih (p + 1) (i + 1) (uF u 4 9 (.inl (Int32.ofNat (p + 1)))) F s1 (by rw [FI_F (by decide)]; exact hk) (fi_4_9 hs) (by omega) (by omega)
          rw [AI_F] at a1 a4
          refine ⟨u2, a1, a2, (Fr4.one (S := S9) (k := 9) rfl).tr a3, fun len h => ?_⟩
          obtain ⟨b1, b2, b3⟩ := a4 len h
          refine ⟨by omega, b2, ?_⟩
          rw [b3]
          congr 1
          omega
        · have e0 : sts (AI u 5) k (m + 1) p i = none := by
            show (if _ then _ else if _ then _ else _) = _
            rw [if_neg h1, if_pos (Or.inr (Int32.not_le.mp h3))]
          rw [e0, decide_eq_false h3, q_b0]
          exact ⟨_, rfl, s1, Fr4.one rfl, fun len h => by cases h⟩
