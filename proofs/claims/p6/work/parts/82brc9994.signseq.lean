set_option maxRecDepth 100000
theorem t22 : ∀ i, i < 18 → r22 (2 * i) = by5 i := by decide +kernel
theorem t21 : ∀ i, i < 7 → r21 (3 * i) = by4 (2 * i) ∧ r21 (3 * i + 1) = by4 (2 * i + 1) := by decide +kernel
theorem one_hit : ∀ i, i < 18 → on1 (by5 i) 18 0 = Int32.ofNat (20 + i) ∧ onM (by5 i) 18 0 (-1) = r22 (2 * i + 1) := by decide +kernel
theorem one_no {c : Int32} (h : ∀ i, i < 18 → by5 i ≠ c) : ∀ (m i : Nat) (s : Int32), i + m = 18 → on1 c m i = 45 ∧ onM c m i s = s := by
  intro m
  induction m with
  | zero => intro i s _; exact ⟨rfl, rfl⟩
  | succ m ih =>
    intro i s hi
    have h1 := h i (by omega)
    have h2 : r22 (2 * i) ≠ c := by rw [t22 i (by omega)]; exact h1
    obtain ⟨a1, a2⟩ := ih (i + 1) s (by omega)
    refine ⟨?_, ?_⟩
    · show (if by5 i = c then _ else on1 c m (i + 1)) = 45
      rw [if_neg h1]; exact a1
    · show onM c m (i + 1) (if r22 (2 * i) = c then r22 (2 * i + 1) else s) = s
      rw [if_neg h2]; exact a2
theorem one_both (c : Int32) : (on1 c 18 0 = 45 ∧ onM c 18 0 (-1) = -1) ∨ ∃ i, i < 18 ∧ on1 c 18 0 = Int32.ofNat (20 + i) ∧ onM c 18 0 (-1) = r22 (2 * i + 1) := by
  by_cases h : ∃ i, i < 18 ∧ by5 i = c
  · obtain ⟨i, hi, rfl⟩ := h
    exact Or.inr ⟨i, hi, one_hit i hi⟩
  · exact Or.inl (one_no (fun i hi e => h ⟨i, hi, e⟩) 18 0 (-1) (by omega))
theorem two_hit {s : Int32} : ∀ i, i < 7 → tw (by4 (2 * i)) (by4 (2 * i + 1)) 7 0 = some i ∧ twM (by4 (2 * i)) (by4 (2 * i + 1)) 7 0 s 1 = (r21 (3 * i + 2), 2) := by
  have e1 : ∀ i, i < 7 → tw (by4 (2 * i)) (by4 (2 * i + 1)) 7 0 = some i := by decide +kernel
  have key : ∀ i, i < 7 → ∀ j, j < 7 → (r21 (3 * j) = by4 (2 * i) ∧ r21 (3 * j + 1) = by4 (2 * i + 1)) → j = i := by decide +kernel
  intro i hi
  refine ⟨e1 i hi, ?_⟩
  have fin : ∀ (m j : Nat) (s n : Int32), j + m = 7 → i < j → twM (by4 (2 * i)) (by4 (2 * i + 1)) m j s n = (s, n) := by
    intro m
    induction m with
    | zero => intro j s n _ _; rfl
    | succ m ih =>
      intro j s n hj hij
      show (if _ then _ else twM _ _ m (j + 1) s n) = _
      rw [if_neg (fun z => absurd (key i hi j (by omega) z) (by omega))]
      exact ih (j + 1) s n (by omega) (by omega)
  have run : ∀ (m j : Nat) (s n : Int32), j + m = 7 → j ≤ i → twM (by4 (2 * i)) (by4 (2 * i + 1)) m j s n = (r21 (3 * i + 2), 2) := by
    intro m
    induction m with
    | zero => intro j s n h1 h2; omega
    | succ m ih =>
      intro j s n hj hij
      by_cases e : j = i
      · subst e
        show (if r21 (3 * j) = by4 (2 * j) ∧ r21 (3 * j + 1) = by4 (2 * j + 1) then twM _ _ m (j + 1) (r21 (3 * j + 2)) 2 else _) = _
        rw [if_pos (t21 j hi)]
        exact fin m (j + 1) _ _ (by omega) (by omega)
      · show (if _ then _ else twM _ _ m (j + 1) s n) = _
        rw [if_neg (fun z => e (key i hi j (by omega) z))]
        exact ih (j + 1) s n (by omega) (by omega)
  exact run 7 0 s 1 (by omega) (by omega)
theorem two_no {c d : Int32} (h : ∀ i, i < 7 → ¬ (by4 (2 * i) = c ∧ by4 (2 * i + 1) = d)) : ∀ (m i : Nat) (s n : Int32), i + m = 7 → tw c d m i = none ∧ twM c d m i s n = (s, n) := by
  intro m
  induction m with
  | zero => intro i s n _; exact ⟨rfl, rfl⟩
  | succ m ih =>
    intro i s n hi
    have h1 := h i (by omega)
    have h2 : ¬ (r21 (3 * i) = c ∧ r21 (3 * i + 1) = d) := by rw [(t21 i (by omega)).1, (t21 i (by omega)).2]; exact h1
    obtain ⟨a1, a2⟩ := ih (i + 1) s n (by omega)
    refine ⟨?_, ?_⟩
    · show (if by4 (2 * i) = c ∧ by4 (2 * i + 1) = d then some i else tw c d m (i + 1)) = none
      rw [if_neg h1]; exact a1
    · show (if r21 (3 * i) = c ∧ r21 (3 * i + 1) = d then twM c d m (i + 1) (r21 (3 * i + 2)) 2 else twM c d m (i + 1) s n) = (s, n)
      rw [if_neg h2]; exact a2
theorem two_both (c d s : Int32) : (tw c d 7 0 = none ∧ twM c d 7 0 s 1 = (s, 1)) ∨ ∃ i, i < 7 ∧ tw c d 7 0 = some i ∧ twM c d 7 0 s 1 = (r21 (3 * i + 2), 2) := by
  by_cases h : ∃ i, i < 7 ∧ by4 (2 * i) = c ∧ by4 (2 * i + 1) = d
  · obtain ⟨i, hi, rfl, rfl⟩ := h
    exact Or.inr ⟨i, hi, two_hit i hi⟩
  · exact Or.inl (two_no (fun i hi e => h ⟨i, hi, e⟩) 7 0 s 1 (by omega))
