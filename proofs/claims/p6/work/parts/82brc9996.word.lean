set_option maxRecDepth 100000
def wde (g : Nat → Int32) (k : Nat) : Nat → Nat → Nat
  | 0, p => p
  | m + 1, p => if k ≤ p then p else if isW (g p) = false then p else wde g k m (p + 1)
theorem wde_ge {g : Nat → Int32} {k : Nat} : ∀ m p, p ≤ wde g k m p := by
  intro m
  induction m with
  | zero => intro p; exact Nat.le_refl _
  | succ m ih =>
    intro p
    show p ≤ if k ≤ p then p else if isW (g p) = false then p else wde g k m (p + 1)
    split
    · exact Nat.le_refl _
    · split
      · exact Nat.le_refl _
      · exact Nat.le_trans (by omega) (ih (p + 1))
theorem wde_le {g : Nat → Int32} {k : Nat} : ∀ m p, p ≤ k → wde g k m p ≤ k := by
  intro m
  induction m with
  | zero => intro p h; exact h
  | succ m ih =>
    intro p h
    show (if k ≤ p then p else if isW (g p) = false then p else wde g k m (p + 1)) ≤ k
    split
    · exact h
    · split
      · exact h
      · exact ih (p + 1) (by omega)
theorem wde_eq {f g : Nat → Int32} {k : Nat} (hfg : ∀ j, j < k → f j = g j) : ∀ m p, wde f k m p = wde g k m p := by
  intro m
  induction m with
  | zero => intro p; rfl
  | succ m ih =>
    intro p
    show (if k ≤ p then p else if isW (f p) = false then p else wde f k m (p + 1)) = if k ≤ p then p else if isW (g p) = false then p else wde g k m (p + 1)
    by_cases h : k ≤ p
    · rw [if_pos h, if_pos h]
    · rw [if_neg h, if_neg h, hfg p (by omega), ih]
theorem w44 {N : Nat} {G G2 : CS → Nat → Int32 → Int32 → Option (CS × Int32)} {u : CS} {c s : Int32} : fb_To_word_44 N G u 4 c s = fb_To_word_44 N G2 u 4 c s := rfl
theorem wdC_loop {N k : Nat} {c s : Int32} {G0 : CS → Nat → Int32 → Int32 → Option (CS × Int32)} (hk4 : k ≤ 4000) : ∀ (m p : Nat) (u : CS) (F : Nat), skB u = true → FI u 4 1 = Int32.ofNat k → FI u 4 9 = Int32.ofNat p → p + m = k + 1 → ∃ u2, skB u2 = true ∧ Fr4 S9 u u2 ∧ FI u2 4 9 = Int32.ofNat (wde (AI u 5) k m p) ∧ gg_To_word N (F + m + 1) u 4 c s = fb_To_word_44 N G0 u2 4 c s := by
  intro m
  induction m with
  | zero =>
    intro p u F hs hk h9 hp
    refine ⟨u, hs, Fr4.rf, h9, ?_⟩
    show fb_To_word_5 N (gg_To_word N (F + 0)) u 4 _ _ = _
    generalize gg_To_word N (F + 0) = G
    unfold fb_To_word_5
    rw [gi_4_9 hs, q_bo, gi_4_1 hs, q_bo, h9, hk, decide_eq_true ((q_le (a := k) (b := p) (by omega) (by omega)).mpr (by omega)), q_b1]
    exact w44
  | succ m ih =>
    intro p u F hs hk h9 hp
    by_cases hkp : k ≤ p
    · have e0 : wde (AI u 5) k (m + 1) p = p := if_pos hkp
      rw [e0]
      refine ⟨u, hs, Fr4.rf, h9, ?_⟩
      show fb_To_word_5 N (gg_To_word N (F + (m + 1))) u 4 _ _ = _
      generalize gg_To_word N (F + (m + 1)) = G
      unfold fb_To_word_5
      rw [gi_4_9 hs, q_bo, gi_4_1 hs, q_bo, h9, hk, decide_eq_true ((q_le (a := k) (b := p) (by omega) (by omega)).mpr hkp), q_b1]
      exact w44
    · have ek : decide (Int32.ofNat k ≤ Int32.ofNat p) = false := decide_eq_false (fun z => hkp ((q_le (a := k) (b := p) (by omega) (by omega)).mp z))
      by_cases hd : isW (AI u 5 p) = false
      · have e0 : wde (AI u 5) k (m + 1) p = p := by
          show (if k ≤ p then _ else if isW (AI u 5 p) = false then _ else _) = _
          rw [if_neg hkp, if_pos hd]
        rw [e0]
        refine ⟨u, hs, Fr4.rf, h9, ?_⟩
        show fb_To_word_5 N (gg_To_word N (F + (m + 1))) u 4 _ _ = _
        generalize gg_To_word N (F + (m + 1)) = G
        unfold fb_To_word_5
        rw [gi_4_9 hs, q_bo, gi_4_1 hs, q_bo, h9, hk, ek, q_b0, gr_4_0 hs, q_bo, q_bo, q_bo, ai_5 hs, if_pos (q_inb (by omega) (by decide)), q_bo, q_nat (by omega), woC, q_bx, b2i_0, hd]
        rfl
      · have hd1 : isW (AI u 5 p) = true := by cases h : isW (AI u 5 p) with
          | true => rfl
          | false => exact absurd h hd
        have e0 : wde (AI u 5) k (m + 1) p = wde (AI u 5) k m (p + 1) := by
          show (if k ≤ p then _ else if isW (AI u 5 p) = false then _ else _) = _
          rw [if_neg hkp, if_neg hd]
        have s1 := sf_4_9 (v := Int32.ofNat (p + 1)) hs
        obtain ⟨u2, i1, i2, i3, i4⟩ := ih (p + 1) (uF u 4 9 (.inl (Int32.ofNat (p + 1)))) F s1 (by rw [FI_F (by decide)]; exact hk) (fi_4_9 hs) (by omega)
        rw [AI_F] at i3
        rw [e0]
        refine ⟨u2, i1, (Fr4.one (S := S9) (k := 9) rfl).tr i2, i3, ?_⟩
        rw [← i4]
        show fb_To_word_5 N (gg_To_word N (F + m + 1)) u 4 _ _ = _
        generalize gg_To_word N (F + m + 1) = G
        unfold fb_To_word_5
        rw [gi_4_9 hs, q_bo, gi_4_1 hs, q_bo, h9, hk, ek, q_b0, gr_4_0 hs, q_bo, q_bo, q_bo, ai_5 hs, if_pos (q_inb (by omega) (by decide)), q_bo, q_nat (by omega), woC, q_bx, b2i_0, hd1]
        show br false _ _ = _
        rw [q_b0, gi_4_9 hs, q_bo, h9, q_suc, pf_4_9 hs, q_bo]
def finW (N : Nat) (w : MS) (c : Int32) (n : Int32) : Option (MS × Unit) := bnd (fm_M_wordAt N w (w.1 10) n) (fun u6 r6 => br (decide (r6 = (-1))) (br (decide (n ≤ 16)) (bnd (fm_M_isSmall N u6 c) (fun u7 r7 => br (decide (r7 = 0)) (bnd (fm_M_textOf N u7 15 16 (u7.1 17) 4 (u7.1 10) n) (fun u8 r8 => br (decide (r8 = (u8.1 17))) (fb_M_wordToken_141 N (fun _ _ _ => none) u8 n r8 ((u8.1 17) + 1)) (fb_M_wordToken_141 N (fun _ _ _ => none) u8 n r8 (u8.1 17)))) (bnd (fm_M_atom N u7 4 (u7.1 10) n) (fun u9 r9 => bnd (fm_M_token N u9 1 r9) (fun u10 _ => fb_M_wordToken_151 N (fun _ _ _ => none) u10 n))))) (bnd (fm_M_token N u6 7 0) (fun u11 _ => fb_M_wordToken_151 N (fun _ _ _ => none) u11 n))) (bnd (fm_M_token N u6 3 r6) (fun u12 _ => fb_M_wordToken_151 N (fun _ _ _ => none) u12 n)))
theorem wdM_loop {N k p0 : Nat} {w : MS} {c : Int32} (hk : w.1 5 = Int32.ofNat k) (hk4 : k ≤ 4000) (h10 : w.1 10 = Int32.ofNat p0) (hB : bytB (w.2.2.1 4)) : ∀ (m n F : Nat), p0 + n + m = k + 1 → gg_M_wordToken N (F + m + 1) w c (Int32.ofNat n) = finW N w c (Int32.ofNat (wde (w.2.2.1 4) k m (p0 + n) - p0)) := by
  intro m
  induction m with
  | zero =>
    intro n F hp
    have e1 := atM (N := N) (w := w) (k := k) (p := p0 + n) hk hk4 (by omega)
    have e2 : sgA (w.2.2.1 4) k (p0 + n) = -1 := by unfold sgA; rw [if_neg (by omega)]
    show fb_M_wordToken_2 N (gg_M_wordToken N (F + 0)) _ _ _ = _
    generalize gg_M_wordToken N (F + 0) = G
    unfold fb_M_wordToken_2
    rw [h10, q_add, e1, q_bn, e2, inM, q_bn, b2i_0]
    rw [show wde (w.2.2.1 4) k 0 (p0 + n) - p0 = n from by show p0 + n - p0 = n; omega]
    unfold finW
    rw [h10]
    rfl
  | succ m ih =>
    intro n F hp
    have e1 := atM (N := N) (w := w) (k := k) (p := p0 + n) hk hk4 (by omega)
    by_cases hkp : k ≤ p0 + n
    · have e0 : wde (w.2.2.1 4) k (m + 1) (p0 + n) = p0 + n := if_pos hkp
      have e2 : sgA (w.2.2.1 4) k (p0 + n) = -1 := by unfold sgA; rw [if_neg (by omega)]
      rw [e0]
      show fb_M_wordToken_2 N (gg_M_wordToken N (F + (m + 1))) _ _ _ = _
      generalize gg_M_wordToken N (F + (m + 1)) = G
      unfold fb_M_wordToken_2
      rw [h10, q_add, e1, q_bn, e2, inM, q_bn, b2i_0]
      rw [show p0 + n - p0 = n from by omega]
      unfold finW
      rw [h10]
      rfl
    · have e2 : sgA (w.2.2.1 4) k (p0 + n) = w.2.2.1 4 (p0 + n) &&& 255 := by unfold sgA; rw [if_pos (by omega)]
      have hx := hB (p0 + n) (by omega)
      by_cases hd : isW (w.2.2.1 4 (p0 + n)) = false
      · have e0 : wde (w.2.2.1 4) k (m + 1) (p0 + n) = p0 + n := by
          show (if k ≤ p0 + n then _ else if isW (w.2.2.1 4 (p0 + n)) = false then _ else _) = _
          rw [if_neg hkp, if_pos hd]
        rw [e0]
        show fb_M_wordToken_2 N (gg_M_wordToken N (F + (m + 1))) _ _ _ = _
        generalize gg_M_wordToken N (F + (m + 1)) = G
        unfold fb_M_wordToken_2
        rw [h10, q_add, e1, q_bn, e2, inM, q_bn, b2i_0, w_and hx, hd]
        rw [show p0 + n - p0 = n from by omega]
        unfold finW
        rw [h10]
        rfl
      · have hd1 : isW (w.2.2.1 4 (p0 + n)) = true := by cases h : isW (w.2.2.1 4 (p0 + n)) with
          | true => rfl
          | false => exact absurd h hd
        have e0 : wde (w.2.2.1 4) k (m + 1) (p0 + n) = wde (w.2.2.1 4) k m (p0 + n + 1) := by
          show (if k ≤ p0 + n then _ else if isW (w.2.2.1 4 (p0 + n)) = false then _ else _) = _
          rw [if_neg hkp, if_neg hd]
        have i1 := ih (n + 1) F (by omega)
        rw [e0, show p0 + n + 1 = p0 + (n + 1) from by omega, ← i1]
        show fb_M_wordToken_2 N (gg_M_wordToken N (F + m + 1)) _ _ _ = _
        generalize gg_M_wordToken N (F + m + 1) = G
        unfold fb_M_wordToken_2
        rw [h10, q_add, e1, q_bn, e2, inM, q_bn, b2i_0, w_and hx, hd1]
        show br false _ _ = _
        rw [q_b0, q_suc]
