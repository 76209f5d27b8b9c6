set_option maxRecDepth 100000
def by5 (i : Nat) : Int32 := (bytSt.getD 5 []).getD i 0
def by4 (i : Nat) : Int32 := (bytSt.getD 4 []).getD i 0
theorem ch5 {N : Nat} {u : CS} {i : Nat} (h : i < 18) : fm_JS_charAt N u 5 (Int32.ofNat i) = some (u, by5 i) := by
  rcases (show i = 0 ∨ i = 1 ∨ i = 2 ∨ i = 3 ∨ i = 4 ∨ i = 5 ∨ i = 6 ∨ i = 7 ∨ i = 8 ∨ i = 9 ∨ i = 10 ∨ i = 11 ∨ i = 12 ∨ i = 13 ∨ i = 14 ∨ i = 15 ∨ i = 16 ∨ i = 17 by omega) with rfl | rfl | rfl | rfl | rfl | rfl | rfl | rfl | rfl | rfl | rfl | rfl | rfl | rfl | rfl | rfl | rfl | rfl <;> rfl
theorem ch4 {N : Nat} {u : CS} {i : Nat} (h : i < 14) : fm_JS_charAt N u 4 (Int32.ofNat i) = some (u, by4 i) := by
  rcases (show i = 0 ∨ i = 1 ∨ i = 2 ∨ i = 3 ∨ i = 4 ∨ i = 5 ∨ i = 6 ∨ i = 7 ∨ i = 8 ∨ i = 9 ∨ i = 10 ∨ i = 11 ∨ i = 12 ∨ i = 13 by omega) with rfl | rfl | rfl | rfl | rfl | rfl | rfl | rfl | rfl | rfl | rfl | rfl | rfl | rfl <;> rfl
theorem len5 {N : Nat} {u : CS} : fm_JS_length N u 5 = some (u, Int32.ofNat 18) := by
  have h : fm_JS_length N u 5 = some (u, (Int32.ofNat (lenSt.getD 5 0)) >>> ((0 : Int32) &&& 31)) := rfl
  rw [h, show (Int32.ofNat (lenSt.getD 5 0)) >>> ((0 : Int32) &&& 31) = Int32.ofNat 18 from by decide]
theorem len4 {N : Nat} {u : CS} : fm_JS_length N u 4 = some (u, Int32.ofNat 14) := by
  have h : fm_JS_length N u 4 = some (u, (Int32.ofNat (lenSt.getD 4 0)) >>> ((0 : Int32) &&& 31)) := rfl
  rw [h, show (Int32.ofNat (lenSt.getD 4 0)) >>> ((0 : Int32) &&& 31) = Int32.ofNat 14 from by decide]
def on1 (c : Int32) : Nat → Nat → Int32
  | 0, _ => 45
  | m + 1, i => if by5 i = c then Int32.ofNat (20 + i) else on1 c m (i + 1)
theorem one_loop {N : Nat} {u : CS} {c : Int32} : ∀ (m i F : Nat), i + m = 18 → (gg_To_signs N (F + m + 1)).2 u c (Int32.ofNat i) = some (u, on1 c m i) := by
  intro m
  induction m with
  | zero =>
    intro i F hi
    show fb_To_signs_81 N (gg_To_signs N (F + 0)) u c (Int32.ofNat i) = _
    generalize gg_To_signs N (F + 0) = G
    unfold fb_To_signs_81
    rw [q_ck (by decide), len5, q_bx, decide_eq_true ((q_le (a := 18) (b := i) (by decide) (by omega)).mpr (by omega)), q_b1]
    rfl
  | succ m ih =>
    intro i F hi
    have i1 := ih (i + 1) F (by omega)
    show fb_To_signs_81 N (gg_To_signs N (F + m + 1)) u c (Int32.ofNat i) = _
    generalize gg_To_signs N (F + m + 1) = G at i1 ⊢
    unfold fb_To_signs_81
    rw [q_ck (by decide), len5, q_bx, decide_eq_false (fun z => absurd ((q_le (a := 18) (b := i) (by decide) (by omega)).mp z) (by omega)), q_b0, q_ck (by decide), ch5 (by omega), q_bx]
    show br (decide (by5 i = c)) (some (u, 20 + Int32.ofNat i)) (G.2 u c (Int32.ofNat i + 1)) = some (u, if by5 i = c then Int32.ofNat (20 + i) else on1 c m (i + 1))
    by_cases h : by5 i = c
    · rw [decide_eq_true h, q_b1, if_pos h, show (20 : Int32) = Int32.ofNat 20 from rfl, q_add]
    · rw [decide_eq_false h, q_b0, if_neg h, q_suc]
      exact i1
def tw (c d : Int32) : Nat → Nat → Option Nat
  | 0, _ => none
  | m + 1, i => if by4 (2 * i) = c ∧ by4 (2 * i + 1) = d then some i else tw c d m (i + 1)
theorem two_loop {N p : Nat} {u : CS} {c d : Int32} (hs : skB u = true) (h9 : FI u 4 9 = Int32.ofNat p) : ∀ (m i F : Nat), i + m = 7 → (gg_To_signs N (F + m + 20)).1 u 4 c d (Int32.ofNat (2 * i)) = match tw c d m i with
    | some x => some (uF u 4 9 (.inl (Int32.ofNat (p + 2))), Int32.ofNat (38 + x))
    | none => some (uF u 4 9 (.inl (Int32.ofNat (p + 1))), on1 c 18 0) := by
  intro m
  induction m with
  | zero =>
    intro i F hi
    have o1 := one_loop (N := N) (u := uF u 4 9 (.inl (Int32.ofNat (p + 1)))) (c := c) 18 0 F (by omega)
    show fb_To_signs_13 N (gg_To_signs N (F + 18 + 1)) u 4 c d (Int32.ofNat (2 * i)) = _
    generalize gg_To_signs N (F + 18 + 1) = G at o1 ⊢
    unfold fb_To_signs_13
    rw [q_ck (by decide), len4, q_bx, q_suc, decide_eq_true ((q_le (a := 14) (b := 2 * i + 1) (by decide) (by omega)).mpr (by omega)), q_b1]
    show bo (gI u 4 9 9) _ = _
    rw [gi_4_9 hs, q_bo, h9, q_suc, pf_4_9 hs, q_bo]
    exact o1
  | succ m ih =>
    intro i F hi
    have i1 := ih (i + 1) F (by omega)
    have e38 : ∀ i, i < 7 → (38 : Int32) + Int32.ofNat (2 * i) / 2 = Int32.ofNat (38 + i) := by decide +kernel
    show fb_To_signs_13 N (gg_To_signs N (F + m + 20)) u 4 c d (Int32.ofNat (2 * i)) = _
    generalize gg_To_signs N (F + m + 20) = G at i1 ⊢
    have e63 : fb_To_signs_63 N G u 4 c d (Int32.ofNat (2 * i)) = match tw c d m (i + 1) with
        | some x => some (uF u 4 9 (.inl (Int32.ofNat (p + 2))), Int32.ofNat (38 + x))
        | none => some (uF u 4 9 (.inl (Int32.ofNat (p + 1))), on1 c 18 0) := by
      unfold fb_To_signs_63
      rw [show (2 : Int32) = Int32.ofNat 2 from rfl, q_add, show 2 * i + 2 = 2 * (i + 1) from by omega]
      exact i1
    unfold fb_To_signs_13
    rw [q_ck (by decide), len4, q_bx, q_suc, decide_eq_false (fun z => absurd ((q_le (a := 14) (b := 2 * i + 1) (by decide) (by omega)).mp z) (by omega)), q_b0, q_ck (by decide), ch4 (by omega), q_bx]
    show br (decide (by4 (2 * i) = c)) (ck (decide (4 < nSt)) (bx (fm_JS_charAt N u 4 (Int32.ofNat (2 * i + 1))) _)) (fb_To_signs_63 N G u 4 c d (Int32.ofNat (2 * i))) = _
    rw [q_ck (by decide), ch4 (by omega), q_bx]
    show br (decide (by4 (2 * i) = c)) (br (decide (by4 (2 * i + 1) = d)) (bo (gI u 4 9 9) (fun r8 => bo (pF u 4 9 9 (.inl (r8 + 2))) (fun w9 => some (w9, (38 + (Int32.ofNat (2 * i) / 2)))))) (fb_To_signs_63 N G u 4 c d (Int32.ofNat (2 * i)))) (fb_To_signs_63 N G u 4 c d (Int32.ofNat (2 * i))) = _
    rw [e63, gi_4_9 hs, q_bo, h9, show (2 : Int32) = Int32.ofNat 2 from rfl, q_add, pf_4_9 hs, q_bo]
    have e38 := e38 i (by omega)
    rw [show (2 : Int32) = Int32.ofNat 2 from rfl] at e38
    rw [e38]
    by_cases h1 : by4 (2 * i) = c
    · rw [decide_eq_true h1, q_b1]
      by_cases h2 : by4 (2 * i + 1) = d
      · have e0 : tw c d (m + 1) i = some i := if_pos ⟨h1, h2⟩
        rw [decide_eq_true h2, q_b1, e0]
      · have e0 : tw c d (m + 1) i = tw c d m (i + 1) := if_neg (fun z => h2 z.2)
        rw [decide_eq_false h2, q_b0, e0]
    · have e0 : tw c d (m + 1) i = tw c d m (i + 1) := if_neg (fun z => h1 z.1)
      rw [decide_eq_false h1, q_b0, e0]
