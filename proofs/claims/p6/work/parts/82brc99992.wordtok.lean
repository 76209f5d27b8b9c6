set_option maxRecDepth 100000
def A1 (i : Nat) : Prop := i = 2 ∨ i = 3
def F1 (i j : Nat) : Prop := i = 1 ∧ j = 2
def I14 (k : Nat) : Prop := k = 14
def AA (k : Nat) : Prop := k = 12 ∨ k = 13
theorem I14w {k : Nat} (h : I14 k) : IWz k := Or.inl h
theorem AAw {k : Nat} (h : AA k) : AW k := by
  rcases h with h | h
  · exact Or.inl h
  · exact Or.inr (Or.inl h)
theorem AT_more {u : CS} {w : MS} {fr : Nat → Nat} {n N b len : Nat} (h : skB u = true) (ha : AT u w fr n) (hb : b + len ≤ 4000) (hB : bytB (AI u 5)) (ht : ∀ i, i < len → AI u 5 (b + i) = w.2.2.1 4 (b + i)) (hn : n + 1 < 2101) (hf : fr n + len ≤ 4300) (hN : n * (len + 3) + len + 3 ≤ N) : ∃ u2 w2 fr2 n2 r, fm_Wo_find N u 1 (some 5) (Int32.ofNat b) (Int32.ofNat len) = some (u2, Int32.ofNat r) ∧ fm_M_atom N w 4 (Int32.ofNat b) (Int32.ofNat len) = some (w2, Int32.ofNat r) ∧ skB u2 = true ∧ AT u2 w2 fr2 n2 ∧ r < n2 ∧ FrC A1 F1 u u2 ∧ FrM I14 AA w w2 ∧ n ≤ n2 ∧ n2 ≤ n + 1 ∧ fr2 n2 ≤ fr n + len ∧ (∀ j, j ≤ n → fr2 j = fr j) ∧ (∀ j, j < fr n → AI u2 2 j = AI u 2 j) := by
  obtain ⟨u2, w2, fr2, n2, r, a1, a2, a3, a4, a5, a6⟩ := AT_step (N := N) h ha hb hB ht hn hf hN
  refine ⟨u2, w2, fr2, n2, r, a1, a2, a3, a4, a5, ?_⟩
  rcases a6 with ⟨rfl, rfl, rfl, rfl⟩ | ⟨rfl, rfl, rfl, rfl, rfl⟩
  · exact ⟨FrC.rf, FrM.iI rfl, Nat.le_refl _, by omega, by omega, fun _ _ => rfl, fun _ _ => rfl⟩
  · refine ⟨((FrC.ai (by decide) (Or.inl rfl)).tr (FrC.ai (by decide) (Or.inr rfl))).tr (FrC.fi (by decide) ⟨rfl, rfl⟩), ((FrM.iA (Or.inl rfl)).tr (FrM.iA (Or.inr rfl))).tr (FrM.iI rfl), by omega, by omega, ?_, fun j hj => frN_lt hj, fun j hj => ?_⟩
    · rw [frN_n]; exact Nat.le_refl _
    · rw [AI_2_new h, put_lo hj]
theorem wde_gt {g : Nat → Int32} {k p : Nat} (h1 : p < k) (h2 : isW (g p) = true) {m : Nat} (hm : 1 ≤ m) : p < wde g k m p := by
  obtain ⟨m, rfl⟩ : ∃ m2, m = m2 + 1 := ⟨m - 1, by omega⟩
  show p < if k ≤ p then p else if isW (g p) = false then p else wde g k m (p + 1)
  rw [if_neg (by omega), h2, if_neg (by decide)]
  have := wde_ge (g := g) (k := k) m (p + 1)
  omega
theorem wde_end {g : Nat → Int32} {k : Nat} : ∀ m p, p + m = k + 1 → wde g k m p = k + 1 ∨ k ≤ wde g k m p ∨ isW (g (wde g k m p)) = false := by
  intro m
  induction m with
  | zero => intro p h; exact Or.inl h
  | succ m ih =>
    intro p h
    have e : wde g k (m + 1) p = if k ≤ p then p else if isW (g p) = false then p else wde g k m (p + 1) := rfl
    by_cases h1 : k ≤ p
    · rw [e, if_pos h1]; exact Or.inr (Or.inl h1)
    · by_cases h2 : isW (g p) = false
      · rw [e, if_neg h1, if_pos h2]; exact Or.inr (Or.inr h2)
      · rw [e, if_neg h1, if_neg h2]; exact ih (p + 1) (by omega)
theorem frW_a : ∀ j, j < 15 → frW (j + 1) - frW j ≤ 7 ∧ frW j < frW (j + 1) ∧ isSm (sgW (frW j)) = true ∧ frW (j + 1) ≤ 62 := by decide +kernel
theorem sgW_long {tx : Nat → Int32} {b len : Nat} (h : 16 < len) : skN sgW tx frW b len 0 15 = none := (skN_none 15 0).mpr (fun y _ hy z => by
  have := (frW_a y (by omega)).1
  have := z.1
  omega)
theorem sgW_great {tx : Nat → Int32} {b len : Nat} (h : isSm (tx b) = false) : skN sgW tx frW b len 0 15 = none := (skN_none 15 0).mpr (fun y _ hy z => by
  obtain ⟨a1, a2, a3, a4⟩ := frW_a y (by omega)
  obtain ⟨z1, z2⟩ := z
  obtain ⟨m, rfl⟩ : ∃ m2, len = m2 + 1 := ⟨len - 1, by omega⟩
  have z2 : (decide (sgW (frW y) = tx b) && eqN sgW tx (frW y + 1) (b + 1) m) = true := z2
  rw [Bool.and_eq_true, decide_eq_true_eq] at z2
  rw [z2.1, h] at a3
  cases a3)
theorem sgW_eq {f g : Nat → Int32} {b len : Nat} (h : ∀ i, i < len → f (b + i) = g (b + i)) : skN sgW f frW b len 0 15 = skN sgW g frW b len 0 15 := skN_congr (n := 15) (fun j hj => Nat.le_of_lt (frW_a j hj).2.1) (fun _ _ => rfl) h 15 0 rfl
theorem sgW_lt {f : Nat → Int32} {b len r : Nat} (h : skN sgW f frW b len 0 15 = some r) : r < 15 := by
  have := ((skN_some 15 0).mp h).2.1
  omega
theorem c_sm {x : Int32} (hx : nrB x = x) (h1 : isW x = true) (h2 : isDg x = false) : decide (97 ≤ x &&& 255) = isSm x ∧ isSm (x &&& 255) = isSm x := by
  have := sg_all (fun x => !(isW x && !isDg x) || (decide (97 ≤ x &&& 255) == isSm x && isSm (x &&& 255) == isSm x)) (by decide +kernel) hx
  rw [h1, h2] at this
  simp only [Bool.not_false, Bool.and_true, Bool.not_true, Bool.false_or, Bool.and_eq_true, beq_iff_eq] at this
  exact this
theorem WD_rw {u : CS} {w : MS} (h : skB u = true) (hc : CON u w) : WD u 9 10 11 62 16 sgW frW 15 := by
  obtain ⟨c1, c2, c3, -⟩ := hc
  refine ⟨io_9 h, by rw [gi_9_2 h, c1], gr_9_0 h, gr_9_1 h, fun j hj => ?_, fun j hj => ?_, fun j hj => Nat.le_of_lt (frW_a j hj).2.1, fun j hj => ?_, by decide, by decide, by decide⟩
  · rw [ai_11 h, if_pos (q_inb (by omega) (by decide)), q_nat (by omega), c3 j (by omega)]
  · rw [ai_10 h, if_pos (q_inb (by omega) (by decide)), q_nat (by omega), c2 j hj]
  · have : ∀ j, j ≤ 15 → frW j ≤ 62 := by decide +kernel
    exact this j hj
theorem TX_5 {u : CS} (h : skB u = true) : TX u 5 4000 (AI u 5) := ⟨fun j hj => by rw [ai_5 h, if_pos (q_inb hj (by decide)), q_nat (by omega)], by decide⟩
def AX (i : Nat) : Prop := i < 15
def FX (i _ : Nat) : Prop := i = 1 ∨ i = 4 ∨ i = 12
def IX (k : Nat) : Prop := k = 9 ∨ k = 10 ∨ k = 11 ∨ k = 14 ∨ k = 17 ∨ k = 20
def AY (k : Nat) : Prop := k = 6 ∨ k = 7 ∨ k = 8 ∨ k = 12 ∨ k = 13 ∨ k = 15 ∨ k = 16 ∨ k = 18 ∨ k = 19
theorem FrC.of4 {S : Nat → Prop} {u u2 : CS} (h : Fr4 S u u2) : FrC AX FX u u2 := ⟨h.1, fun i hi => fr4_AI h (fun e => hi (by rw [e]; show 4 < 15; decide)), fun i j hi => fr4_FI h (fun e => hi (Or.inr (Or.inl e))), fun i hi => h.2.1 i (by omega)⟩
theorem FrM.tk10 {w : MS} {i : Nat} {s v x : Int32} : FrM IX AY w (upI (tkM w i s v) 10 x) := (tk_fr.mo (fun _ z => Or.inl z) (fun k z => by
  rcases z with z | z | z
  · exact Or.inl z
  · exact Or.inr (Or.inl z)
  · exact Or.inr (Or.inr (Or.inl z)))).tr (FrM.iI (Or.inr (Or.inl rfl)))
theorem FrC.a7 {u : CS} {g : Nat → Int32} : FrC AX FX u (uA u 7 g) := FrC.ai (by decide) (by show 7 < 15; decide)
def OUT (u : CS) (w : MS) (n : TN) (x : Option (CS × Int32)) (y : Option (MS × Unit)) : Prop :=
  ∃ u2 w2 n2 c, x = some (u2, c) ∧ y = some (w2, ()) ∧ skB u2 = true ∧ FI u2 4 5 = Int32.ofNat n.i ∧ AI u2 8 n.i = Int32.ofNat n.l ∧ n2.k = n.k ∧ FrC AX FX u u2 ∧ FrM IX AY w w2 ∧
    ((c = 45 ∧ TB u2 w2 n2 ∧ n2.i = n.i ∧ w2.1 9 = Int32.ofNat (n.i + 1) ∧ w2.2.2.1 6 n.i = 7 ∧ w2.2.2.1 8 n.i = Int32.ofNat n.l) ∨ (c ≠ 45 ∧ c ≠ 0 ∧ TK (finC u2 n.i c) w2 n2 ∧ n2.i = n.i + 1 ∧ n.p < n2.p))
theorem CF_9 {u u1 : CS} {i : Nat} {a : Int32} (hs : skB u1 = true) (f : Fr4 S9 u u1) (ha : AI u 7 i = a) : CF u u1 i a := ⟨hs, fr4_AI f (by decide), fr4_AI f (by decide), fr4_AI f (by decide), fun j _ => by rw [fr4_AI f (by decide)], by rw [fr4_AI f (by decide)]; exact ha, fr4_AI f (by decide), fr4_AI f (by decide), f.2.2 1 (by unfold S9; decide), f.2.2 5 (by unfold S9; decide), f.2.2 10 (by unfold S9; decide), fr4_FI f (by decide)⟩
