set_option maxRecDepth 100000
def fA (j : Nat) : Int32 := mS0.2.2.1 1 j
theorem fa0_a : ∀ t, t < 22 → fA (fa0 t + t) = Int32.ofNat (fa0 (t + 1) - fa0 t) ∧ fa0 t < fa0 (t + 1) ∧ fa0 (t + 1) ≤ 139 ∧ fa0 (t + 1) - fa0 t ≤ 15 := by decide +kernel
theorem fa0_b : ∀ t, t < 22 → ∀ i, i < fa0 (t + 1) - fa0 t → nrB (fA (fa0 t + t + 1 + i)) = sa0 (fa0 t + i) := by decide +kernel
theorem fa0_c : ∀ t, t < 22 → skN sa0 fA fa0 (fa0 t + t + 1) (fa0 (t + 1) - fa0 t) 0 t = none := by decide +kernel
theorem fa0_m : ∀ t, t ≤ 22 → fa0 t ≤ 139 := by decide +kernel
section STA
variable {w : MS} {N : Nat}
def FA (w : MS) (t : Nat) : Prop := w.2.2.1 1 = mS0.2.2.1 1 ∧ w.1 14 = Int32.ofNat t ∧ (∀ j, j ≤ t → w.2.2.1 13 j = Int32.ofNat (fa0 j)) ∧ (∀ j, j < fa0 t → w.2.2.1 12 j = sa0 j)
theorem FA_wt {t : Nat} (h : FA w t) (ht : t ≤ 22) : WT3 w 12 13 1 fa0 t := by
  refine ⟨by decide, by decide, by decide, h.2.2.1, fun j hj => Nat.le_of_lt (fa0_a j (by omega)).2.1, fun j hj => ?_, ?_, by decide, by decide, by decide⟩
  · have := fa0_m j (by omega)
    show fa0 j ≤ 5000; omega
  · show t + 1 < 2200; omega
def I14' (k : Nat) : Prop := k = 14
theorem FA_step {t : Nat} (h : FA w t) (ht : t < 22) (hN : 100000 ≤ N) : ∃ w2, fm_M_atom N w 1 (Int32.ofNat (fa0 t + t + 1)) (Int32.ofNat (fa0 (t + 1) - fa0 t)) = some (w2, Int32.ofNat t) ∧ FA w2 (t + 1) ∧ FrM I14 AA w w2 := by
  obtain ⟨a1, a2, a3, a4⟩ := fa0_a t ht
  obtain ⟨h1, h2, h3, h4⟩ := h
  have hm := fa0_m t (by omega)
  have hmul : t * (fa0 (t + 1) - fa0 t + 3) ≤ 22 * 18 := Nat.mul_le_mul (by omega) (by omega)
  have tx := tx_ok (N := N) (b := fa0 t + t + 1) (len := fa0 (t + 1) - fa0 t) (FA_wt ⟨h1, h2, h3, h4⟩ (by omega)) (by show _ ≤ 161; omega) (by show _ ≤ 5000; omega) (by decide) (by decide) (by omega)
  have sk : skN (w.2.2.1 12) (w.2.2.1 1) fa0 (fa0 t + t + 1) (fa0 (t + 1) - fa0 t) 0 t = none := by
    rw [skN_congr (sg2 := sa0) (tx2 := fA) (n := t) (fun j hj => Nat.le_of_lt (fa0_a j (by omega)).2.1) h4 (fun i _ => by rw [h1]; rfl) t 0 (by omega)]
    exact fa0_c t ht
  rw [sk] at tx
  have e0 : (nwT w 12 13 1 (fa0 t) t (fa0 t + t + 1) (fa0 (t + 1) - fa0 t)).1 14 = Int32.ofNat t := h2
  refine ⟨upI (nwT w 12 13 1 (fa0 t) t (fa0 t + t + 1) (fa0 (t + 1) - fa0 t)) 14 (Int32.ofNat (t + 1)), ?_, ⟨h1, rfl, fun j hj => ?_, fun j hj => ?_⟩, ((FrM.iA (Or.inl rfl)).tr (FrM.iA (Or.inr rfl))).tr (FrM.iI rfl)⟩
  · unfold fm_M_atom fb_M_atom_0
    rw [h2, tx, q_bn]
    show br (decide (Int32.ofNat t = (nwT w 12 13 1 (fa0 t) t (fa0 t + t + 1) (fa0 (t + 1) - fa0 t)).1 14)) _ _ = _
    rw [e0, show decide (Int32.ofNat t = Int32.ofNat t) = true from decide_eq_true rfl, q_b1, q_suc]
    rfl
  · show upd (w.2.2.1 13) (t + 1) (Int32.ofNat (fa0 t + (fa0 (t + 1) - fa0 t))) j = _
    by_cases e : j = t + 1
    · rw [e, upd_self, show fa0 t + (fa0 (t + 1) - fa0 t) = fa0 (t + 1) from by omega]
    · rw [upd_ne e]; exact h3 j (by omega)
  · show put (w.2.2.1 12) (fun j => nrB (w.2.2.1 1 j)) (fa0 t) (fa0 t + t + 1) (fa0 (t + 1) - fa0 t) j = _
    by_cases e : j < fa0 t
    · rw [put_lo e]; exact h4 j e
    · obtain ⟨i, rfl⟩ : ∃ i, j = fa0 t + i := ⟨j - fa0 t, by omega⟩
      rw [put_in (by omega), h1]
      exact fa0_b t ht i (by omega)
theorem FA_all (hN : 100000 ≤ N) : ∀ (m t F : Nat) (w : MS), t + m = 22 → m + 1 ≤ F → FA w t → ∃ w2, gg_M_allFirstAtoms N F w (Int32.ofNat (fa0 t + t)) = some (w2, ()) ∧ FA w2 22 ∧ FrM I14 AA w w2 := by
  intro m
  induction m with
  | zero =>
    intro t F w ht hF h
    have e : t = 22 := by omega
    subst e
    obtain ⟨F, rfl⟩ : ∃ F2, F = F2 + 1 := ⟨F - 1, by omega⟩
    refine ⟨w, ?_, h, FrM.rf⟩
    show fb_M_allFirstAtoms_17 N (gg_M_allFirstAtoms N F) w _ = _
    generalize gg_M_allFirstAtoms N F = G
    unfold fb_M_allFirstAtoms_17
    rw [show decide (Int32.ofNat (ln 1) ≤ Int32.ofNat (fa0 22 + 22)) = true from by decide +kernel, q_b1]
  | succ m ih =>
    intro t F w ht hF h
    have ht2 : t < 22 := by omega
    obtain ⟨F, rfl⟩ : ∃ F2, F = F2 + 1 := ⟨F - 1, by omega⟩
    obtain ⟨a1, a2, a3, a4⟩ := fa0_a t ht2
    have hm := fa0_m t (by omega)
    obtain ⟨w2, s1, s2, s3⟩ := FA_step (N := N) h ht2 hN
    obtain ⟨w3, r1, r2, r3⟩ := ih (t + 1) F w2 (by omega) (by omega) s2
    refine ⟨w3, ?_, r2, s3.tr r3⟩
    rw [← r1]
    show fb_M_allFirstAtoms_17 N (gg_M_allFirstAtoms N F) w _ = _
    generalize gg_M_allFirstAtoms N F = G
    unfold fb_M_allFirstAtoms_17
    have el : decide (Int32.ofNat (ln 1) ≤ Int32.ofNat (fa0 t + t)) = false := decide_eq_false (fun z => absurd ((q_le (a := 161) (b := fa0 t + t) (by decide) (by omega)).mp z) (by
      have : ∀ t, t < 22 → fa0 t + t < 161 := by decide +kernel
      have := this t ht2
      omega))
    have e161 : fa0 t + t < 161 := by
      have : ∀ t, t < 22 → fa0 t + t < 161 := by decide +kernel
      exact this t ht2
    have hv : w.2.2.1 1 (fa0 t + t) = Int32.ofNat (fa0 (t + 1) - fa0 t) := by rw [h.1]; exact a1
    have hv2 : w2.2.2.1 1 (fa0 t + t) = Int32.ofNat (fa0 (t + 1) - fa0 t) := by rw [s2.1]; exact a1
    rw [el, q_b0, q_ck (q_inb (by show _ < 161; exact e161) (by decide)), q_nat (by omega), hv, q_suc, s1, q_bn, q_ck (q_inb (by show _ < 161; exact e161) (by decide)), q_ls, hv2, q_suc, q_add, show fa0 t + t + (fa0 (t + 1) - fa0 t + 1) = fa0 (t + 1) + (t + 1) from by omega]
end STA
def TP (u : CS) (w : MS) : Prop := (CON u w) ∧ (∀ j, j < 139 → AI u 2 j = sa0 j) ∧ (∀ j, j ≤ 22 → AI u 3 j = Int32.ofNat (fa0 j)) ∧ (AI u 13 0 = 95) ∧ (AI u 14 0 = 0 ∧ AI u 14 1 = 1) ∧ (w.2.2.1 13 0 = 0) ∧ (w.2.2.1 16 0 = 0) ∧ (w.2.2.1 19 0 = 0)
theorem TP.co {u : CS} {w : MS} (h : TP u w) : CON u w := h.1
theorem TP.s22 {u : CS} {w : MS} (h : TP u w) : ∀ j, j < 139 → AI u 2 j = sa0 j := h.2.1
theorem TP.f22 {u : CS} {w : MS} (h : TP u w) : ∀ j, j ≤ 22 → AI u 3 j = Int32.ofNat (fa0 j) := h.2.2.1
theorem TP.n13 {u : CS} {w : MS} (h : TP u w) : AI u 13 0 = 95 := h.2.2.2.1
theorem TP.n14 {u : CS} {w : MS} (h : TP u w) : AI u 14 0 = 0 ∧ AI u 14 1 = 1 := h.2.2.2.2.1
theorem TP.m13 {u : CS} {w : MS} (h : TP u w) : w.2.2.1 13 0 = 0 := h.2.2.2.2.2.1
theorem TP.m16 {u : CS} {w : MS} (h : TP u w) : w.2.2.1 16 0 = 0 := h.2.2.2.2.2.2.1
theorem TP.m19 {u : CS} {w : MS} (h : TP u w) : w.2.2.1 19 0 = 0 := h.2.2.2.2.2.2.2
theorem TP.mk1 {u : CS} {w : MS} (co : CON u w) (s22 : ∀ j, j < 139 → AI u 2 j = sa0 j) (f22 : ∀ j, j ≤ 22 → AI u 3 j = Int32.ofNat (fa0 j)) (n13 : AI u 13 0 = 95) (n14 : AI u 14 0 = 0 ∧ AI u 14 1 = 1) (m13 : w.2.2.1 13 0 = 0) (m16 : w.2.2.1 16 0 = 0) (m19 : w.2.2.1 19 0 = 0) : TP u w := ⟨co, s22, f22, n13, n14, m13, m16, m19⟩
theorem TP_of {u : CS} {w : MS} {n : TN} (h : TB u w n) : TP u w := by
  obtain ⟨⟨a1, a2, a3⟩, ⟨b1, b2, b3, b4, b5⟩, c1, c2⟩ := h.atm
  obtain ⟨⟨d1, d2, d3⟩, ⟨e1, e2, e3, e4, e5⟩, g1, g2, g3⟩ := h.nmm
  have h22 := h.a22
  refine ⟨h.co, h.s22, fun j hj => ?_, g2.2.1.2.2, ⟨?_, ?_⟩, ?_, ?_, ?_⟩
  · rw [← h.f22 j hj]; exact a2 j (by omega)
  · have := d2 0 (Nat.zero_le _)
    rw [g2.2.1.1] at this
    exact this
  · have := d2 1 g3
    rw [g2.2.1.2.1] at this
    exact this
  · rw [b4 0 (Nat.zero_le _), h.f22 0 (by decide)]; rfl
  · rw [e4 0 (Nat.zero_le _), h.r00]; rfl
  · rw [h.sf 0 (Nat.zero_le _), h.z00]; rfl
