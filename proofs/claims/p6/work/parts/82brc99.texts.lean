set_option maxRecDepth 100000
def WT3 (u : MS) (v0 v1 v3 : Nat) (fr : Nat → Nat) (n : Nat) : Prop :=
  isK v0 3 = true ∧ isK v1 4 = true ∧ isK v3 3 = true ∧ (∀ j, j ≤ n → u.2.2.1 v1 j = Int32.ofNat (fr j)) ∧ (∀ j, j < n → fr j ≤ fr (j + 1)) ∧ (∀ j, j ≤ n → fr j ≤ ln v0) ∧ n + 1 < ln v1 ∧ ln v0 < 100000 ∧ ln v1 < 100000 ∧ ln v3 < 100000
section TXT
variable {u : MS} {v0 v1 v3 n N b len : Nat} {fr : Nat → Nat}
theorem tx_in (h : WT3 u v0 v1 v3 fr n) (hb : b + len ≤ ln v3) {w : Nat} (hw : w < n) (hl : fr (w + 1) - fr w = len) : ∀ (m i k : Nat), i + m = len → (eqN (u.2.2.1 v0) (u.2.2.1 v3) (fr w + i) (b + i) m = true ∧ (gg_M_textOf N (k + m + 1)).2.1 u v0 v1 (Int32.ofNat n) v3 (Int32.ofNat b) (Int32.ofNat len) (Int32.ofNat w) 1 (Int32.ofNat i) = some (u, Int32.ofNat w)) ∨ (eqN (u.2.2.1 v0) (u.2.2.1 v3) (fr w + i) (b + i) m = false ∧ ∃ F, k ≤ F ∧ (gg_M_textOf N (k + m + 1)).2.1 u v0 v1 (Int32.ofNat n) v3 (Int32.ofNat b) (Int32.ofNat len) (Int32.ofNat w) 1 (Int32.ofNat i) = (gg_M_textOf N F).1 u v0 v1 (Int32.ofNat n) v3 (Int32.ofNat b) (Int32.ofNat len) (Int32.ofNat (w + 1))) := by
  obtain ⟨h1, h2, h3, h4, h5, h6, h7, h8, h9, h10⟩ := h
  have hm := h5 w hw
  have hq := h6 (w + 1) (by omega)
  intro m
  induction m with
  | zero =>
    intro i k hi
    refine Or.inl ⟨rfl, ?_⟩
    have e2 : decide (Int32.ofNat len ≤ Int32.ofNat i) = true := decide_eq_true ((q_le (by omega) (by omega)).mpr (by omega))
    show fb_M_textOf_35 N (gg_M_textOf N (k + 0)) u v0 v1 _ v3 _ _ _ _ _ = _
    unfold fb_M_textOf_35
    rw [e2]
    rfl
  | succ m ih =>
    intro i k hi
    have e2 : decide (Int32.ofNat len ≤ Int32.ofNat i) = false := decide_eq_false (fun z => absurd ((q_le (by omega) (by omega)).mp z) (by omega))
    have e3 : (u.2.2.1 v1 (Int32.ofNat w).toNatClampNeg) + Int32.ofNat i = Int32.ofNat (fr w + i) := by rw [q_nat (by omega), h4 w (by omega), q_add]
    have e4 : Int32.ofNat b + Int32.ofNat i = Int32.ofNat (b + i) := q_add
    have e5 : inb (Int32.ofNat w) (ln v1) = true := q_inb (by omega) (by omega)
    have e6 : inb (Int32.ofNat (fr w + i)) (ln v0) = true := q_inb (by omega) (by omega)
    have e7 : inb (Int32.ofNat (b + i)) (ln v3) = true := q_inb (by omega) (by omega)
    have key : ∀ t0, fb_M_textOf_71 N (gg_M_textOf N (k + (m + 1))) u v0 v1 (Int32.ofNat n) v3 (Int32.ofNat b) (Int32.ofNat len) (Int32.ofNat w) (Int32.ofNat i) t0 = (gg_M_textOf N (k + m + 1)).2.1 u v0 v1 (Int32.ofNat n) v3 (Int32.ofNat b) (Int32.ofNat len) (Int32.ofNat w) t0 (Int32.ofNat (i + 1)) := fun t0 => by
      unfold fb_M_textOf_71
      rw [q_suc]
      rfl
    have hd : (gg_M_textOf N (k + (m + 1) + 1)).2.1 u v0 v1 (Int32.ofNat n) v3 (Int32.ofNat b) (Int32.ofNat len) (Int32.ofNat w) 1 (Int32.ofNat i) = if u.2.2.1 v0 (fr w + i) = u.2.2.1 v3 (b + i) then (gg_M_textOf N (k + m + 1)).2.1 u v0 v1 (Int32.ofNat n) v3 (Int32.ofNat b) (Int32.ofNat len) (Int32.ofNat w) 1 (Int32.ofNat (i + 1)) else (gg_M_textOf N (k + m + 1)).2.1 u v0 v1 (Int32.ofNat n) v3 (Int32.ofNat b) (Int32.ofNat len) (Int32.ofNat w) 0 (Int32.ofNat (i + 1)) := by
      show fb_M_textOf_35 N (gg_M_textOf N (k + (m + 1))) u v0 v1 _ v3 _ _ _ _ _ = _
      unfold fb_M_textOf_35
      rw [e2, q_ck h2, q_ck e5, q_ck h1, e3, q_ck e6, q_ck h3, e4, q_ck e7, key, key, q_nat (by omega), q_nat (by omega)]
      by_cases hc : u.2.2.1 v0 (fr w + i) = u.2.2.1 v3 (b + i)
      · rw [if_pos hc, decide_eq_true hc]; rfl
      · rw [if_neg hc, decide_eq_false hc]; rfl
    rw [hd]
    by_cases hc : u.2.2.1 v0 (fr w + i) = u.2.2.1 v3 (b + i)
    · rw [if_pos hc]
      have i1 := ih (i + 1) k (by omega)
      have e8 : eqN (u.2.2.1 v0) (u.2.2.1 v3) (fr w + i) (b + i) (m + 1) = eqN (u.2.2.1 v0) (u.2.2.1 v3) (fr w + (i + 1)) (b + (i + 1)) m := by
        show (decide _ && _) = _
        rw [decide_eq_true hc, Bool.true_and]
        rfl
      rw [e8]
      exact i1
    · rw [if_neg hc]
      refine Or.inr ⟨?_, k + m, by omega, ?_⟩
      · show (decide _ && _) = _
        rw [decide_eq_false hc, Bool.false_and]
      · show fb_M_textOf_35 N (gg_M_textOf N (k + m)) u v0 v1 _ v3 _ _ _ _ _ = _
        have e9 : fb_M_textOf_79 N (gg_M_textOf N (k + m)) u v0 v1 (Int32.ofNat n) v3 (Int32.ofNat b) (Int32.ofNat len) (Int32.ofNat w) 0 = (gg_M_textOf N (k + m)).1 u v0 v1 (Int32.ofNat n) v3 (Int32.ofNat b) (Int32.ofNat len) (Int32.ofNat (w + 1)) := by
          unfold fb_M_textOf_79
          rw [q_suc]
          rfl
        unfold fb_M_textOf_35
        rw [e9]
        cases decide (Int32.ofNat len ≤ Int32.ofNat (i + 1)) <;> rfl
theorem tx_out (h : WT3 u v0 v1 v3 fr n) (hb : b + len ≤ ln v3) : ∀ (m w F : Nat), w + m = n → m * (len + 3) + len + 3 ≤ F → (∃ x, skN (u.2.2.1 v0) (u.2.2.1 v3) fr b len w m = some x ∧ (gg_M_textOf N F).1 u v0 v1 (Int32.ofNat n) v3 (Int32.ofNat b) (Int32.ofNat len) (Int32.ofNat w) = some (u, Int32.ofNat x)) ∨ (skN (u.2.2.1 v0) (u.2.2.1 v3) fr b len w m = none ∧ ∃ F2, len + 1 ≤ F2 ∧ (gg_M_textOf N F).1 u v0 v1 (Int32.ofNat n) v3 (Int32.ofNat b) (Int32.ofNat len) (Int32.ofNat w) = (gg_M_textOf N F2).2.2 u v0 v1 (Int32.ofNat n) v3 (Int32.ofNat b) (Int32.ofNat len) 0) := by
  have h0 := h
  obtain ⟨h1, h2, h3, h4, h5, h6, h7, h8, h9, h10⟩ := h
  intro m
  induction m with
  | zero =>
    intro w F hw hF
    obtain ⟨F1, rfl⟩ : ∃ F1, F = F1 + 1 := ⟨F - 1, by omega⟩
    refine Or.inr ⟨rfl, F1, by omega, ?_⟩
    have e2 : decide (Int32.ofNat n ≤ Int32.ofNat w) = true := decide_eq_true ((q_le (by omega) (by omega)).mpr (by omega))
    show fb_M_textOf_3 N (gg_M_textOf N F1) u v0 v1 _ v3 _ _ _ = _
    unfold fb_M_textOf_3
    rw [e2]
    rfl
  | succ m ih =>
    intro w F hw hF
    rw [Nat.succ_mul] at hF
    have hm := h5 w (by omega)
    have hq := h6 (w + 1) (by omega)
    obtain ⟨F1, rfl⟩ : ∃ F1, F = F1 + len + 1 + 1 := ⟨F - len - 2, by omega⟩
    have e2 : decide (Int32.ofNat n ≤ Int32.ofNat w) = false := decide_eq_false (fun z => absurd ((q_le (by omega) (by omega)).mp z) (by omega))
    have e5 : inb (Int32.ofNat w) (ln v1) = true := q_inb (by omega) (by omega)
    have e6 : inb (Int32.ofNat (w + 1)) (ln v1) = true := q_inb (by omega) (by omega)
    have e7 : u.2.2.1 v1 (Int32.ofNat (w + 1)).toNatClampNeg - u.2.2.1 v1 (Int32.ofNat w).toNatClampNeg = Int32.ofNat (fr (w + 1) - fr w) := by
      rw [q_nat (by omega), q_nat (by omega), h4 (w + 1) (by omega), h4 w (by omega), q_sub hm]
    have hd : (gg_M_textOf N (F1 + len + 1 + 1)).1 u v0 v1 (Int32.ofNat n) v3 (Int32.ofNat b) (Int32.ofNat len) (Int32.ofNat w) = (gg_M_textOf N (F1 + len + 1)).2.1 u v0 v1 (Int32.ofNat n) v3 (Int32.ofNat b) (Int32.ofNat len) (Int32.ofNat w) (if fr (w + 1) - fr w = len then 1 else 0) 0 := by
      show fb_M_textOf_3 N (gg_M_textOf N (F1 + len + 1)) u v0 v1 _ v3 _ _ _ = _
      unfold fb_M_textOf_3
      rw [e2, q_suc, q_ck h2, q_ck e6, q_ck h2, q_ck e5, e7]
      by_cases hc : fr (w + 1) - fr w = len
      · rw [if_pos hc, decide_eq_true (by rw [hc])]; rfl
      · rw [if_neg hc, decide_eq_false (fun z => hc (by
          have := congrArg Int32.toNatClampNeg z
          rw [q_nat (by omega), q_nat (by omega)] at this
          exact this))]; rfl
    rw [hd]
    by_cases hc : fr (w + 1) - fr w = len
    · rw [if_pos hc]
      rcases tx_in (N := N) h0 hb (by omega) hc len 0 F1 (by omega) with ⟨a1, a2⟩ | ⟨a1, F2, a2, a3⟩
      · have e8 : skN (u.2.2.1 v0) (u.2.2.1 v3) fr b len w (m + 1) = some w := if_pos ⟨hc, a1⟩
        exact Or.inl ⟨w, e8, a2⟩
      · have e8 : skN (u.2.2.1 v0) (u.2.2.1 v3) fr b len w (m + 1) = skN (u.2.2.1 v0) (u.2.2.1 v3) fr b len (w + 1) m := if_neg (fun z => by
          have := z.2
          rw [show eqN (u.2.2.1 v0) (u.2.2.1 v3) (fr w) b len = false from a1] at this
          cases this)
        rw [e8]
        have i1 := ih (w + 1) F2 (by omega) (by omega)
        rw [show (gg_M_textOf N (F1 + len + 1)).2.1 u v0 v1 (Int32.ofNat n) v3 (Int32.ofNat b) (Int32.ofNat len) (Int32.ofNat w) 1 0 = _ from a3]
        exact i1
    · rw [if_neg hc]
      have e8 : skN (u.2.2.1 v0) (u.2.2.1 v3) fr b len w (m + 1) = skN (u.2.2.1 v0) (u.2.2.1 v3) fr b len (w + 1) m := if_neg (fun z => hc z.1)
      rw [e8]
      have i1 := ih (w + 1) (F1 + len) (by omega) (by omega)
      have e9 : (gg_M_textOf N (F1 + len + 1)).2.1 u v0 v1 (Int32.ofNat n) v3 (Int32.ofNat b) (Int32.ofNat len) (Int32.ofNat w) 0 0 = (gg_M_textOf N (F1 + len)).1 u v0 v1 (Int32.ofNat n) v3 (Int32.ofNat b) (Int32.ofNat len) (Int32.ofNat (w + 1)) := by
        show fb_M_textOf_35 N (gg_M_textOf N (F1 + len)) u v0 v1 _ v3 _ _ _ _ _ = _
        have e9 : fb_M_textOf_79 N (gg_M_textOf N (F1 + len)) u v0 v1 (Int32.ofNat n) v3 (Int32.ofNat b) (Int32.ofNat len) (Int32.ofNat w) 0 = (gg_M_textOf N (F1 + len)).1 u v0 v1 (Int32.ofNat n) v3 (Int32.ofNat b) (Int32.ofNat len) (Int32.ofNat (w + 1)) := by
          unfold fb_M_textOf_79
          rw [q_suc]
          rfl
        unfold fb_M_textOf_35
        rw [e9]
        cases decide (Int32.ofNat len ≤ 0) <;> rfl
      rw [e9]
      exact i1
end TXT
