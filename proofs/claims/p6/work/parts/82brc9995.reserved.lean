set_option maxRecDepth 100000
def frW (j : Nat) : Nat := [0, 5, 12, 17, 21, 26, 29, 32, 35, 37, 40, 42, 48, 55, 58, 62].getD j 62
def r0 (j : Nat) : Int32 := mS0.2.2.1 0 j
def sgW (j : Nat) : Int32 := ((bytSt.getD 1 []).filter (fun x => x != 32)).getD j 0
theorem r0_a : ∀ j, j < 15 → r0 (frW j + j) = Int32.ofNat (frW (j + 1) - frW j) ∧ frW j ≤ frW (j + 1) ∧ frW (j + 1) ≤ 62 := by decide +kernel
theorem r0_b : ∀ j, j < 15 → ∀ i, i < frW (j + 1) - frW j → r0 (frW j + j + 1 + i) = sgW (frW j + i) := by decide +kernel
theorem eqN_sh {f g tx : Nat → Int32} : ∀ (m a a2 b : Nat), (∀ i, i < m → f (a + i) = g (a2 + i)) → eqN f tx a b m = eqN g tx a2 b m := by
  intro m
  induction m with
  | zero => intro a a2 b _; rfl
  | succ m ih =>
    intro a a2 b h
    have e1 : f a = g a2 := h 0 (by omega)
    show (decide (f a = tx b) && _) = (decide (g a2 = tx b) && _)
    rw [e1, ih (a + 1) (a2 + 1) (b + 1) (fun i hi => by
      have := h (i + 1) (by omega)
      rw [show a + 1 + i = a + (i + 1) from by omega, show a2 + 1 + i = a2 + (i + 1) from by omega]
      exact this)]
section RSV
variable {w : MS} {N b len : Nat}
theorem wa_in (h0 : w.2.2.1 0 = mS0.2.2.1 0) (hb : b + len ≤ 4000) {j : Nat} (hj : j < 15) (hl : frW (j + 1) - frW j = len) : ∀ (m i k : Nat), i + m = len → (eqN r0 (w.2.2.1 4) (frW j + j + 1 + i) (b + i) m = true ∧ (gg_M_wordAt N (k + m + 1)).2 w (Int32.ofNat b) (Int32.ofNat len) (Int32.ofNat (frW j + j)) (Int32.ofNat j) 1 (Int32.ofNat i) = some (w, Int32.ofNat j)) ∨ (eqN r0 (w.2.2.1 4) (frW j + j + 1 + i) (b + i) m = false ∧ ∃ F, k ≤ F ∧ (gg_M_wordAt N (k + m + 1)).2 w (Int32.ofNat b) (Int32.ofNat len) (Int32.ofNat (frW j + j)) (Int32.ofNat j) 1 (Int32.ofNat i) = (gg_M_wordAt N F).1 w (Int32.ofNat b) (Int32.ofNat len) (Int32.ofNat (frW (j + 1) + (j + 1))) (Int32.ofNat (j + 1))) := by
  obtain ⟨ra, rb, rc⟩ := r0_a j hj
  have e81 : ∀ G, fb_M_wordAt_81 N G w (Int32.ofNat b) (Int32.ofNat len) (Int32.ofNat (frW j + j)) (Int32.ofNat j) 0 = G.1 w (Int32.ofNat b) (Int32.ofNat len) (Int32.ofNat (frW (j + 1) + (j + 1))) (Int32.ofNat (j + 1)) := fun G => by
    unfold fb_M_wordAt_81
    rw [show decide ((0 : Int32) = 0) = true from rfl, q_b1, q_ck (q_inb (by show frW j + j < 77; omega) (by decide)), q_nat (k := frW j + j) (by omega), h0, show mS0.2.2.1 0 (frW j + j) = r0 (frW j + j) from rfl, ra, q_suc, q_add, q_ls, q_suc, show frW j + j + (frW (j + 1) - frW j + 1) = frW (j + 1) + (j + 1) from by omega]
  intro m
  induction m with
  | zero =>
    intro i k hi
    refine Or.inl ⟨rfl, ?_⟩
    show fb_M_wordAt_34 N (gg_M_wordAt N (k + 0)) w _ _ _ _ _ _ = _
    generalize gg_M_wordAt N (k + 0) = G
    unfold fb_M_wordAt_34
    rw [decide_eq_true ((q_le (a := len) (b := i) (by omega) (by omega)).mpr (by omega)), q_b1]
    rfl
  | succ m ih =>
    intro i k hi
    have hd : (gg_M_wordAt N (k + (m + 1) + 1)).2 w (Int32.ofNat b) (Int32.ofNat len) (Int32.ofNat (frW j + j)) (Int32.ofNat j) 1 (Int32.ofNat i) = if r0 (frW j + j + 1 + i) = w.2.2.1 4 (b + i) then (gg_M_wordAt N (k + m + 1)).2 w (Int32.ofNat b) (Int32.ofNat len) (Int32.ofNat (frW j + j)) (Int32.ofNat j) 1 (Int32.ofNat (i + 1)) else (gg_M_wordAt N (k + m + 1)).2 w (Int32.ofNat b) (Int32.ofNat len) (Int32.ofNat (frW j + j)) (Int32.ofNat j) 0 (Int32.ofNat (i + 1)) := by
      show fb_M_wordAt_34 N (gg_M_wordAt N (k + m + 1)) w _ _ _ _ _ _ = _
      generalize gg_M_wordAt N (k + m + 1) = G
      unfold fb_M_wordAt_34 fb_M_wordAt_73
      rw [decide_eq_false (fun z => absurd ((q_le (a := len) (b := i) (by omega) (by omega)).mp z) (by omega)), q_b0, show decide ((1 : Int32) = 0) = false from rfl, q_b0, q_suc, q_add, q_ck (q_inb (by show frW j + j + 1 + i < 77; omega) (by decide)), q_add, q_ck (q_inb (by show b + i < 4000; omega) (by decide)), q_nat (k := frW j + j + 1 + i) (by omega), q_nat (k := b + i) (by omega), h0, q_suc]
      show br (decide (r0 (frW j + j + 1 + i) = w.2.2.1 4 (b + i))) _ _ = _
      by_cases hc : r0 (frW j + j + 1 + i) = w.2.2.1 4 (b + i)
      · rw [if_pos hc, decide_eq_true hc, q_b1]
      · rw [if_neg hc, decide_eq_false hc, q_b0]
    rw [hd]
    by_cases hc : r0 (frW j + j + 1 + i) = w.2.2.1 4 (b + i)
    · rw [if_pos hc]
      have i1 := ih (i + 1) k (by omega)
      have e8 : eqN r0 (w.2.2.1 4) (frW j + j + 1 + i) (b + i) (m + 1) = eqN r0 (w.2.2.1 4) (frW j + j + 1 + (i + 1)) (b + (i + 1)) m := by
        show (decide _ && _) = _
        rw [decide_eq_true hc, Bool.true_and]
        rfl
      rw [e8]
      exact i1
    · rw [if_neg hc]
      refine Or.inr ⟨?_, k + m, by omega, ?_⟩
      · show (decide _ && _) = _
        rw [decide_eq_false hc, Bool.false_and]
      · show fb_M_wordAt_34 N (gg_M_wordAt N (k + m)) w _ _ _ _ _ _ = _
        rw [← e81 (gg_M_wordAt N (k + m))]
        generalize gg_M_wordAt N (k + m) = G
        unfold fb_M_wordAt_34
        rw [show decide ((0 : Int32) = 0) = true from rfl, q_b1]
        cases decide (Int32.ofNat len ≤ Int32.ofNat (i + 1)) <;> rfl
theorem wa_out (h0 : w.2.2.1 0 = mS0.2.2.1 0) (hb : b + len ≤ 4000) : ∀ (m j F : Nat), j + m = 15 → m * (len + 3) + 2 ≤ F → (gg_M_wordAt N F).1 w (Int32.ofNat b) (Int32.ofNat len) (Int32.ofNat (frW j + j)) (Int32.ofNat j) = some (w, noI (skN sgW (w.2.2.1 4) frW b len j m)) := by
  intro m
  induction m with
  | zero =>
    intro j F hj hF
    obtain ⟨F1, rfl⟩ : ∃ F1, F = F1 + 1 := ⟨F - 1, by omega⟩
    rw [show j = 15 from by omega]
    show fb_M_wordAt_5 N (gg_M_wordAt N F1) w (Int32.ofNat b) (Int32.ofNat len) (Int32.ofNat 77) (Int32.ofNat 15) = _
    generalize gg_M_wordAt N F1 = G
    unfold fb_M_wordAt_5
    rw [show ln 0 = 77 from rfl, show decide (Int32.ofNat 77 ≤ Int32.ofNat 77) = true from by decide, q_b1]
    rfl
  | succ m ih =>
    intro j F hj hF
    rw [Nat.succ_mul] at hF
    obtain ⟨ra, rb, rc⟩ := r0_a j (by omega)
    obtain ⟨F1, rfl⟩ : ∃ F1, F = F1 + len + 1 + 1 := ⟨F - len - 2, by omega⟩
    have hd : (gg_M_wordAt N (F1 + len + 1 + 1)).1 w (Int32.ofNat b) (Int32.ofNat len) (Int32.ofNat (frW j + j)) (Int32.ofNat j) = (gg_M_wordAt N (F1 + len + 1)).2 w (Int32.ofNat b) (Int32.ofNat len) (Int32.ofNat (frW j + j)) (Int32.ofNat j) (if frW (j + 1) - frW j = len then 1 else 0) 0 := by
      show fb_M_wordAt_5 N (gg_M_wordAt N (F1 + len + 1)) w _ _ _ _ = _
      generalize gg_M_wordAt N (F1 + len + 1) = G
      unfold fb_M_wordAt_5 fb_M_wordAt_29
      rw [show ln 0 = 77 from rfl, decide_eq_false (fun z => absurd ((q_le (a := 77) (b := frW j + j) (by decide) (by omega)).mp z) (by omega)), q_b0, q_ck (q_inb (by omega) (by decide)), q_nat (k := frW j + j) (by omega), h0, show mS0.2.2.1 0 (frW j + j) = r0 (frW j + j) from rfl, ra]
      by_cases hc : frW (j + 1) - frW j = len
      · rw [if_pos hc, decide_eq_true (by rw [hc]), q_b1]
      · rw [if_neg hc, decide_eq_false (fun z => hc (by
          have := congrArg Int32.toNatClampNeg z
          rw [q_nat (by omega), q_nat (by omega)] at this
          exact this)), q_b0]
    rw [hd]
    by_cases hc : frW (j + 1) - frW j = len
    · rw [if_pos hc]
      have esh : eqN r0 (w.2.2.1 4) (frW j + j + 1 + 0) (b + 0) len = eqN sgW (w.2.2.1 4) (frW j) b len := eqN_sh len (frW j + j + 1) (frW j) b (fun i hi => r0_b j (by omega) i (by omega))
      rcases wa_in (N := N) h0 hb (show j < 15 by omega) hc len 0 F1 (by omega) with ⟨a1, a2⟩ | ⟨a1, F2, a2, a3⟩
      · have e8 : skN sgW (w.2.2.1 4) frW b len j (m + 1) = some j := if_pos ⟨hc, esh ▸ a1⟩
        rw [e8]
        exact a2
      · have e8 : skN sgW (w.2.2.1 4) frW b len j (m + 1) = skN sgW (w.2.2.1 4) frW b len (j + 1) m := if_neg (fun z => by
          have := z.2
          rw [← esh, a1] at this
          cases this)
        rw [e8, show (gg_M_wordAt N (F1 + len + 1)).2 w (Int32.ofNat b) (Int32.ofNat len) (Int32.ofNat (frW j + j)) (Int32.ofNat j) 1 0 = _ from a3]
        exact ih (j + 1) F2 (by omega) (by omega)
    · rw [if_neg hc]
      have e8 : skN sgW (w.2.2.1 4) frW b len j (m + 1) = skN sgW (w.2.2.1 4) frW b len (j + 1) m := if_neg (fun z => hc z.1)
      have i1 := ih (j + 1) (F1 + len) (by omega) (by omega)
      rw [e8, ← i1]
      show fb_M_wordAt_34 N (gg_M_wordAt N (F1 + len)) w _ _ _ _ _ _ = _
      generalize gg_M_wordAt N (F1 + len) = G
      have e81 : fb_M_wordAt_81 N G w (Int32.ofNat b) (Int32.ofNat len) (Int32.ofNat (frW j + j)) (Int32.ofNat j) 0 = G.1 w (Int32.ofNat b) (Int32.ofNat len) (Int32.ofNat (frW (j + 1) + (j + 1))) (Int32.ofNat (j + 1)) := by
        unfold fb_M_wordAt_81
        rw [show decide ((0 : Int32) = 0) = true from rfl, q_b1, q_ck (q_inb (by show frW j + j < 77; omega) (by decide)), q_nat (k := frW j + j) (by omega), h0, show mS0.2.2.1 0 (frW j + j) = r0 (frW j + j) from rfl, ra, q_suc, q_add, q_ls, q_suc, show frW j + j + (frW (j + 1) - frW j + 1) = frW (j + 1) + (j + 1) from by omega]
      rw [← e81]
      unfold fb_M_wordAt_34
      rw [show decide ((0 : Int32) = 0) = true from rfl, q_b1]
      cases decide (Int32.ofNat len ≤ 0) <;> rfl
theorem wa_ok (h0 : w.2.2.1 0 = mS0.2.2.1 0) (hb : b + len ≤ 4000) (hN : 15 * (len + 3) + 2 ≤ N) : fm_M_wordAt N w (Int32.ofNat b) (Int32.ofNat len) = some (w, noI (skN sgW (w.2.2.1 4) frW b len 0 15)) := wa_out (N := N) h0 hb 15 0 N (by omega) hN
end RSV
