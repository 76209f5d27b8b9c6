set_option maxRecDepth 100000
theorem sk_cp {u : CS} (h : skB u = true) {a0 a1 n0 n1 b fn len : Nat} (hi0 : a0 < 57) (hi1 : a1 < 57) (ht0 : tbl.getD a0 (9, []) = (0, [3, n0])) (ht1 : tbl.getD a1 (9, []) = (0, [3, n1])) (hb : b + len ≤ n0) (hf : fn + len ≤ n1) (hn0 : n0 < 100000) (hn1 : n1 < 100000) (hB : ∀ j, j < n0 → fits .byte (.int (AI u a0 j)) = true) : cpI u 3 a0 (Int32.ofNat b) a1 (Int32.ofNat fn) (Int32.ofNat len) = some (uA u a1 (put (AI u a1) (AI u a0) fn b len)) := by
  obtain ⟨c1, c2⟩ := sk_a h hi0 ht0
  obtain ⟨c3, c4⟩ := sk_a h hi1 ht1
  have z : ∀ k : Nat, k < 100000 → ¬ Int32.ofNat k < 0 := fun k hk z => absurd ((q_lt (a := k) (b := 0) (by omega) (by decide)).mp z) (by omega)
  have e1 : oA u a0 3 = some (n0, AI u a0) := by unfold oA; rw [if_pos c1, c2]; simp
  have e2 : oA u a1 3 = some (n1, AI u a1) := by unfold oA; rw [if_pos c3, c4]; simp
  have e3 : cpOk (Int32.ofNat b) (Int32.ofNat fn) (Int32.ofNat len) n0 n1 = true := by
    unfold cpOk
    rw [q_nat (k := b) (by omega), q_nat (k := fn) (by omega), q_nat (k := len) (by omega)]
    exact decide_eq_true ⟨z b (by omega), z fn (by omega), z len (by omega), hb, hf⟩
  have e4 : ftB 3 (AI u a0) b len = true := by
    unfold ftB
    rw [if_pos rfl]
    exact List.all_eq_true.mpr (fun i hi => hB _ (by have := List.mem_range.mp hi; omega))
  unfold cpI
  rw [e1, q_bo, e2, q_bo, q_ck e3, q_nat (k := b) (by omega), q_nat (k := fn) (by omega), q_nat (k := len) (by omega), q_ck e4]
  unfold uA
  rw [c4]
  rfl
def WF (u : CS) (v0 : Nat) (fr : Nat → Nat) (n : Nat) : Prop := FI u v0 2 = Int32.ofNat n ∧ (∀ j, j ≤ n → AI u (v0 + 2) j = Int32.ofNat (fr j)) ∧ (∀ j, j < n → fr j ≤ fr (j + 1)) ∧ (∀ j, j ≤ n → fr j ≤ 4300) ∧ n < 2101
def nwW (u : CS) (v0 fn n b len : Nat) : CS := uF (uA (uA u (v0 + 1) (put (AI u (v0 + 1)) (AI u 5) fn b len)) (v0 + 2) (upd (AI u (v0 + 2)) (n + 1) (Int32.ofNat (fn + len)))) v0 2 (.inl (Int32.ofNat (n + 1)))
theorem WD_at {u : CS} {fr : Nat → Nat} {n : Nat} (h : skB u = true) (hw : WF u 1 fr n) : WD u 1 2 3 4300 (n + 1) (AI u 2) fr n := by
  obtain ⟨h1, h2, h3, h4, h5⟩ := hw
  refine ⟨io_1 h, by rw [gi_1_2 h, h1], gr_1_0 h, gr_1_1 h, fun j hj => ?_, fun j hj => ?_, h3, h4, by omega, by decide, by omega⟩
  · rw [ai_3 h, if_pos (q_inb (by omega) (by decide)), q_nat (by omega), h2 j (by omega)]
  · rw [ai_2 h, if_pos (q_inb hj (by decide)), q_nat (by omega)]
theorem find_at {u : CS} {fr : Nat → Nat} {n N b len : Nat} (h : skB u = true) (hw : WF u 1 fr n) (hb : b + len ≤ 4000) (hB : ∀ j, j < 4000 → fits .byte (.int (AI u 5 j)) = true) (hn : n + 1 < 2101) (hf : fr n + len ≤ 4300) (hN : len + 1 ≤ N) (hN2 : n + 1 ≤ N) : fm_Wo_find N u 1 (some 5) (Int32.ofNat b) (Int32.ofNat len) = match skN (AI u 2) (AI u 5) fr b len 0 n with
    | some x => some (u, Int32.ofNat x)
    | none => some (nwW u 1 (fr n) n b len, Int32.ofNat n) := by
  have ht : TX u 5 4000 (AI u 5) := ⟨fun j hj => by rw [ai_5 h, if_pos (q_inb hj (by decide)), q_nat (by omega)], by decide⟩
  have h1 := seek_ok (N := N) (WD_at h hw) ht hb hN hN2
  obtain ⟨w1, w2, w3, w4, w5⟩ := hw
  have sx : ∀ w m x, skN (AI u 2) (AI u 5) fr b len w m = some x → x < w + m := by
    intro w m
    induction m generalizing w with
    | zero => intro x hx; cases hx
    | succ m ih =>
      intro x hx
      unfold skN at hx
      split at hx
      · cases hx; omega
      · have := ih (w + 1) x hx; omega
  have sx := sx 0 n
  unfold fm_Wo_find fb_Wo_find_0
  rw [q_ck (io_1 h), h1, q_bx]
  cases hs : skN (AI u 2) (AI u 5) fr b len 0 n with
  | some x =>
    have hx := sx x hs
    have e1 : decide (noI (some x) = (-1 : Int32)) = false := decide_eq_false (fun z => by
      have h9 : ¬ Int32.ofNat x < 0 := fun z => absurd ((q_lt (a := x) (b := 0) (by omega) (by decide)).mp z) (by omega)
      exact h9 (by rw [show Int32.ofNat x = -1 from z]; decide))
    show br (decide (noI (some x) = (-1 : Int32))) _ _ = _
    rw [e1]
    rfl
  | none =>
    show br (decide (noI none = (-1 : Int32))) _ _ = _
    rw [show decide (noI none = (-1 : Int32)) = true from by decide, q_b1]
    have a1 := sa_2 (g := put (AI u 2) (AI u 5) (fr n) b len) h
    have a2 := sa_3 (g := upd (AI u 3) (n + 1) (Int32.ofNat (fr n + len))) a1
    have e2 : decide ((2101 : Int32) ≤ Int32.ofNat (n + 1)) = false := decide_eq_false (fun z => absurd ((q_le (a := 2101) (b := n + 1) (by decide) (by omega)).mp z) (by omega))
    have e3 : decide (Int32.ofNat (fr n + len) ≤ (4300 : Int32)) = true := decide_eq_true ((q_le (a := fr n + len) (b := 4300) (by omega) (by decide)).mpr hf)
    have c1 := sk_cp (a0 := 5) (a1 := 2) (b := b) (fn := fr n) (len := len) h (by decide) (by decide) rfl rfl hb hf (by decide) (by decide) hB
    have i1 : inb (Int32.ofNat n) 2101 = true := q_inb (by omega) (by decide)
    have i2 : inb (Int32.ofNat (n + 1)) 2101 = true := q_inb (by omega) (by decide)
    simp only [gi_1_2 h, gr_1_1 h, gr_1_0 h, na_3 h, na_2 h, q_bo, w1, q_suc, e2, q_b0, ai_3 h, i1, if_true, q_nat (k := n) (by omega), w2 n (Nat.le_refl _), q_add, e3, q_b1, c1, gr_1_1 a1, gi_1_2 a1, ai_3 a1, FI_A, AI_A (show 3 ≠ 2 by decide), si_3 a1, q_suc, i2, q_nat (k := n + 1) (by omega), gi_1_2 a2, pf_1_2 a2, gi_1_2 (sf_1_2 a2), fi_1_2 a2]
    show some (_, Int32.ofNat (n + 1) - 1) = _
    rw [← q_suc n, Int32.add_sub_cancel]
    unfold nwW
    rw [q_suc]
theorem WD_na {u : CS} {fr : Nat → Nat} {n : Nat} (h : skB u = true) (hw : WF u 12 fr n) : WD u 12 13 14 4300 (n + 1) (AI u 13) fr n := by
  obtain ⟨h1, h2, h3, h4, h5⟩ := hw
  refine ⟨io_12 h, by rw [gi_12_2 h, h1], gr_12_0 h, gr_12_1 h, fun j hj => ?_, fun j hj => ?_, h3, h4, by omega, by decide, by omega⟩
  · rw [ai_14 h, if_pos (q_inb (by omega) (by decide)), q_nat (by omega), h2 j (by omega)]
  · rw [ai_13 h, if_pos (q_inb hj (by decide)), q_nat (by omega)]
theorem find_na {u : CS} {fr : Nat → Nat} {n N b len : Nat} (h : skB u = true) (hw : WF u 12 fr n) (hb : b + len ≤ 4000) (hB : ∀ j, j < 4000 → fits .byte (.int (AI u 5 j)) = true) (hn : n + 1 < 2101) (hf : fr n + len ≤ 4300) (hN : len + 1 ≤ N) (hN2 : n + 1 ≤ N) : fm_Wo_find N u 12 (some 5) (Int32.ofNat b) (Int32.ofNat len) = match skN (AI u 13) (AI u 5) fr b len 0 n with
    | some x => some (u, Int32.ofNat x)
    | none => some (nwW u 12 (fr n) n b len, Int32.ofNat n) := by
  have ht : TX u 5 4000 (AI u 5) := ⟨fun j hj => by rw [ai_5 h, if_pos (q_inb hj (by decide)), q_nat (by omega)], by decide⟩
  have h1 := seek_ok (N := N) (WD_na h hw) ht hb hN hN2
  obtain ⟨w1, w2, w3, w4, w5⟩ := hw
  have sx : ∀ w m x, skN (AI u 13) (AI u 5) fr b len w m = some x → x < w + m := by
    intro w m
    induction m generalizing w with
    | zero => intro x hx; cases hx
    | succ m ih =>
      intro x hx
      unfold skN at hx
      split at hx
      · cases hx; omega
      · have := ih (w + 1) x hx; omega
  have sx := sx 0 n
  unfold fm_Wo_find fb_Wo_find_0
  rw [q_ck (io_12 h), h1, q_bx]
  cases hs : skN (AI u 13) (AI u 5) fr b len 0 n with
  | some x =>
    have hx := sx x hs
    have e1 : decide (noI (some x) = (-1 : Int32)) = false := decide_eq_false (fun z => by
      have h9 : ¬ Int32.ofNat x < 0 := fun z => absurd ((q_lt (a := x) (b := 0) (by omega) (by decide)).mp z) (by omega)
      exact h9 (by rw [show Int32.ofNat x = -1 from z]; decide))
    show br (decide (noI (some x) = (-1 : Int32))) _ _ = _
    rw [e1]
    rfl
  | none =>
    show br (decide (noI none = (-1 : Int32))) _ _ = _
    rw [show decide (noI none = (-1 : Int32)) = true from by decide, q_b1]
    have a1 := sa_13 (g := put (AI u 13) (AI u 5) (fr n) b len) h
    have a2 := sa_14 (g := upd (AI u 14) (n + 1) (Int32.ofNat (fr n + len))) a1
    have e2 : decide ((2101 : Int32) ≤ Int32.ofNat (n + 1)) = false := decide_eq_false (fun z => absurd ((q_le (a := 2101) (b := n + 1) (by decide) (by omega)).mp z) (by omega))
    have e3 : decide (Int32.ofNat (fr n + len) ≤ (4300 : Int32)) = true := decide_eq_true ((q_le (a := fr n + len) (b := 4300) (by omega) (by decide)).mpr hf)
    have c1 := sk_cp (a0 := 5) (a1 := 13) (b := b) (fn := fr n) (len := len) h (by decide) (by decide) rfl rfl hb hf (by decide) (by decide) hB
    have i1 : inb (Int32.ofNat n) 2101 = true := q_inb (by omega) (by decide)
    have i2 : inb (Int32.ofNat (n + 1)) 2101 = true := q_inb (by omega) (by decide)
    simp only [gi_12_2 h, gr_12_1 h, gr_12_0 h, na_14 h, na_13 h, q_bo, w1, q_suc, e2, q_b0, ai_14 h, i1, if_true, q_nat (k := n) (by omega), w2 n (Nat.le_refl _), q_add, e3, q_b1, c1, gr_12_1 a1, gi_12_2 a1, ai_14 a1, FI_A, AI_A (show 14 ≠ 13 by decide), si_14 a1, q_suc, i2, q_nat (k := n + 1) (by omega), gi_12_2 a2, pf_12_2 a2, gi_12_2 (sf_12_2 a2), fi_12_2 a2]
    show some (_, Int32.ofNat (n + 1) - 1) = _
    rw [← q_suc n, Int32.add_sub_cancel]
    unfold nwW
    rw [q_suc]
