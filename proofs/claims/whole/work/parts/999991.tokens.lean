/-! the tape's tokens: both sides, from the beginning -/
set_option maxRecDepth 100000
def u00 (u : CS) : CS := uF (uF (uF (uF (uF u 1 2 (.inl 22)) 12 2 (.inl 1)) 4 9 (.inl 0)) 4 10 (.inl 1)) 4 5 (.inl 0)
section TKS
variable {u : CS} {w : MS} {k N : Nat}
theorem u00_s1 (h : skB u = true) : skB (uF u 1 2 (.inl 22)) = true := sf_1_2 h
theorem u00_s2 (h : skB u = true) : skB (uF (uF u 1 2 (.inl 22)) 12 2 (.inl 1)) = true := sf_12_2 (u00_s1 h)
theorem u00_s3 (h : skB u = true) : skB (uF (uF (uF u 1 2 (.inl 22)) 12 2 (.inl 1)) 4 9 (.inl 0)) = true := sf_4_9 (u00_s2 h)
theorem u00_s4 (h : skB u = true) : skB (uF (uF (uF (uF u 1 2 (.inl 22)) 12 2 (.inl 1)) 4 9 (.inl 0)) 4 10 (.inl 1)) = true := sf_4_10 (u00_s3 h)
theorem u00_sk (h : skB u = true) : skB (u00 u) = true := sf_4_5 (u00_s4 h)
theorem u00_A {j : Nat} : AI (u00 u) j = AI u j := by unfold u00; rw [AI_F, AI_F, AI_F, AI_F, AI_F]
theorem u00_F {a b : Nat} (h1 : a ≠ 1 ∨ b ≠ 2) (h2 : a ≠ 12 ∨ b ≠ 2) (h3 : a ≠ 4 ∨ b ≠ 9) (h4 : a ≠ 4 ∨ b ≠ 10) (h5 : a ≠ 4 ∨ b ≠ 5) : FI (u00 u) a b = FI u a b := by
  unfold u00
  rw [FI_F h5, FI_F h4, FI_F h3, FI_F h2, FI_F h1]
theorem u00_fr : FrC AX FX u (u00 u) := ((((FrC.fi (by decide) (Or.inl rfl)).tr (FrC.fi (by decide) (Or.inr (Or.inr rfl)))).tr (FrC.fi (by decide) (Or.inr (Or.inl rfl)))).tr (FrC.fi (by decide) (Or.inr (Or.inl rfl)))).tr (FrC.fi (by decide) (Or.inr (Or.inl rfl)))
theorem TK_start {w2 : MS} (hs : skB u = true) (ht : TT u w k) (hk : k ≤ 4000) (bu : bytB (AI u 5)) (bw : bytB (w.2.2.1 4)) (tp : TP u w) (fa : FA w2 22) (f : FrM IX AA w w2) (h9 : w2.1 9 = 0) (h10 : w2.1 10 = 0) (h11 : w2.1 11 = 1) (h17 : w2.1 17 = 0) (h20 : w2.1 20 = 0) : TK (u00 u) w2 ⟨k, 0, 0, 1, 22, fa0, 0, fun j => j, fun _ => 0, none, 0, fun _ => 0⟩ := by
  have a : ∀ j, j ≠ 12 → j ≠ 13 → w2.2.2.1 j = w.2.2.1 j := fun j x y => f.2.2.1 j (fun z => by rcases z with z | z; exact x z; exact y z)
  have i5 : w2.1 5 = w.1 5 := f.1 5 (by unfold IX; decide)
  obtain ⟨c1, c2, c3, c4, c5, c6, c7, c8⟩ := tp.co
  obtain ⟨g1, g2, g3, g4⟩ := fa
  obtain ⟨v1, v2, v3, v4, v5, v6, v7, v8, v9, v10⟩ := FA_wt ⟨g1, g2, g3, g4⟩ (Nat.le_refl _)
  refine { sk := u00_sk hs, k4 := hk, cu := ?_, cw := i5.trans ht.2.1, ta := fun j hj => ?_, bu := by rw [u00_A]; exact bu, bw := by rw [a 4 (by decide) (by decide)]; exact bw, co := ⟨?_, fun j hj => by rw [u00_A]; exact c2 j hj, fun j hj => by rw [u00_A]; exact c3 j hj, (a 0 (by decide) (by decide)).trans c4, (a 21 (by decide) (by decide)).trans c5, (a 22 (by decide) (by decide)).trans c6, (a 1 (by decide) (by decide)).trans c7, (a 2 (by decide) (by decide)).trans c8⟩, ik := Nat.zero_le _, iu := fi_4_5 (u00_s4 hs), atm := ⟨⟨?_, fun j hj => ?_, v5, fun j hj => ?_, (show 22 < 2101 by decide)⟩, ⟨v1, v2, by decide, v4, v5, v6, v7, v8, v9, by decide⟩, g2, fun j hj => ?_⟩, nmm := ⟨⟨?_, fun j hj => ?_, fun j hj => ?_, fun j hj => ?_, (show 1 < 2101 by decide)⟩, ⟨by decide, by decide, by decide, fun j hj => ?_, fun j hj => Nat.le_refl _, fun j hj => Nat.zero_le _, (show 0 + 1 < 2200 by decide), by decide, by decide, by decide⟩, h17, ⟨fun j hj => ?_, ⟨rfl, rfl, ?_⟩, fun x hx => (by cases hx), fun j hj => ?_⟩, Nat.le_refl _⟩, a22 := Nat.le_refl _, sw := h20, sf := fun j hj => ?_, sm := fun r hr => Nat.le_refl _, f22 := fun _ _ => rfl, s22 := fun j hj => by rw [u00_A]; exact tp.s22 j hj, r00 := rfl, z00 := rfl, tk := fun j hj => ?_, pk := Nat.zero_le _, pu := ?_, pw := h10, lk := Nat.le_refl _, lu := ?_, lw := h11, ip := Nat.le_refl _, iw := h9, b1 := (show 2 * (22 - 22 + 0) ≤ 0 + 1 by decide), b2 := fun z => (by cases z), b3 := (show fa0 22 ≤ 139 + 0 by decide +kernel), b4 := (show 1 ≤ 1 + 0 by decide), b5 := Nat.le_refl _, s2 := Nat.le_refl _, s3 := Nat.le_refl _ }
  · rw [u00_F (by decide) (by decide) (by decide) (by decide) (by decide)]; exact ht.1
  · rw [u00_A, a 4 (by decide) (by decide)]; exact ht.2.2 j hj
  · rw [u00_F (by decide) (by decide) (by decide) (by decide) (by decide)]; exact c1
  · show FI (u00 u) 1 2 = 22
    unfold u00
    rw [FI_F (by decide), FI_F (by decide), FI_F (by decide), FI_F (by decide)]
    exact fi_1_2 hs
  · show AI (u00 u) 3 j = _
    rw [u00_A]; exact tp.f22 j hj
  · have := fa0_m j hj
    show fa0 j ≤ 4300
    omega
  · rw [u00_A, g4 j hj]
    exact tp.s22 j (Nat.lt_of_lt_of_le hj (show fa0 22 ≤ 139 by decide +kernel))
  · show FI (u00 u) 12 2 = 1
    unfold u00
    rw [FI_F (by decide), FI_F (by decide), FI_F (by decide)]
    exact fi_12_2 (u00_s1 hs)
  · show AI (u00 u) 14 j = Int32.ofNat j
    rw [u00_A]
    have hj : j ≤ 1 := hj
    by_cases e : j = 0
    · rw [e]; exact tp.n14.1
    · rw [show j = 1 from by omega]; exact tp.n14.2
  · exact Nat.le_succ _
  · have hj : j ≤ 1 := hj
    show j ≤ 4300; omega
  · have hj : j ≤ 0 := hj
    rw [show j = 0 from by omega, a 16 (by decide) (by decide)]; exact tp.m16
  · exact absurd hj (Nat.not_lt_zero _)
  · rw [u00_A]; exact tp.n13
  · exact absurd hj (Nat.not_lt_zero _)
  · have hj : j ≤ 0 := hj
    rw [show j = 0 from by omega, a 19 (by decide) (by decide)]; exact tp.m19
  · exact absurd hj (Nat.not_lt_zero _)
  · unfold u00
    rw [FI_F (by decide), FI_F (by decide)]
    exact fi_4_9 (u00_s2 hs)
  · unfold u00
    rw [FI_F (by decide)]
    exact fi_4_10 (u00_s3 hs)
/-- both read the same tokens from the tape -/
theorem tokens_both (hs : skB u = true) (ht : TT u w k) (hk : k ≤ 4000) (bu : bytB (AI u 5)) (bw : bytB (w.2.2.1 4)) (tp : TP u w) (hN : 100000000 ≤ N) : ∃ u2 w2 n bad, fm_To_scanAll N u 4 = some (u2, ()) ∧ fm_M_readTokens N w = some (w2, ()) ∧ TOKS u2 w2 n bad ∧ n.k = k ∧ FrC AX FX u u2 ∧ FrM IX AY w w2 ∧ (bad = false → n.fs n.ns ≤ n.k ∧ 2 * n.ns ≤ n.k) := by
  have hFA : FA (upI (upI (upI (upI (upI (upI w 10 0) 11 1) 9 0) 14 0) 17 0) 20 0) 0 := ⟨tp.co.2.2.2.2.2.2.1, rfl, fun j hj => by rw [show j = 0 from by omega]; exact tp.m13, fun j hj => absurd hj (Nat.not_lt_zero _)⟩
  obtain ⟨w2, r1, r2, r3⟩ := FA_all (N := N) (by omega) 22 0 N _ (by omega) (by omega) hFA
  have f0 : FrM IX AA w (upI (upI (upI (upI (upI (upI w 10 0) 11 1) 9 0) 14 0) 17 0) 20 0) := (((((FrM.iI (Or.inr (Or.inl rfl))).tr (FrM.iI (Or.inr (Or.inr (Or.inl rfl))))).tr (FrM.iI (Or.inl rfl))).tr (FrM.iI (Or.inr (Or.inr (Or.inr (Or.inl rfl)))))).tr (FrM.iI (Or.inr (Or.inr (Or.inr (Or.inr (Or.inl rfl))))))).tr (FrM.iI (Or.inr (Or.inr (Or.inr (Or.inr (Or.inr rfl))))))
  have f1 : FrM IX AA w w2 := f0.tr (r3.mo (fun k z => Or.inr (Or.inr (Or.inr (Or.inl z)))) (fun _ z => z))
  have i2 : ∀ j, j ≠ 14 → w2.1 j = (upI (upI (upI (upI (upI (upI w 10 0) 11 1) 9 0) 14 0) 17 0) 20 0).1 j := fun j x => r3.1 j x
  have T := TK_start hs ht hk bu bw tp r2 f1 (i2 9 (by decide)) (i2 10 (by decide)) (i2 11 (by decide)) (i2 17 (by decide)) (i2 20 (by decide))
  have hmul : (3 * (k + 1) + 1) * (k + 1 - 0) ≤ (3 * 4001 + 1) * 4001 := Nat.mul_le_mul (by omega) (by omega)
  obtain ⟨u3, w3, n, bad, a1, a2, a3, a4, a5, a6, a7⟩ := all_both (N := N) hN (k + 1) (u00 u) w2 _ N N T (by show k - 0 < k + 1; omega) (by show k + 2 - 0 ≤ N; omega) (by show (3 * (k + 1) + 1) * (k + 1 - 0) + 5 ≤ N; omega)
  refine ⟨u3, w3, n, bad, ?_, ?_, a3, a4, u00_fr.tr a5, (f1.mo (fun _ z => z) (fun k z => by rcases z with z | z; exact Or.inr (Or.inr (Or.inr (Or.inl z))); exact Or.inr (Or.inr (Or.inr (Or.inr (Or.inl z)))))).tr a6, a7⟩
  · rw [← a1]
    unfold fm_To_scanAll fb_To_scanAll_0
    rw [gr_4_7 hs, q_bo, q_bo, pf_1_2 hs, q_bo, gr_4_8 (u00_s1 hs), q_bo, q_bo, pf_12_2 (u00_s1 hs), q_bo, pf_4_9 (u00_s2 hs), q_bo, pf_4_10 (u00_s3 hs), q_bo, pf_4_5 (u00_s4 hs), q_bo]
    rfl
  · rw [← a2]
    unfold fm_M_readTokens fb_M_readTokens_0
    rw [q_ls, q_ls, q_ls]
    have e : fm_M_allFirstAtoms N (upI (upI (upI w 10 0) 11 1) 9 0) = some (w2, ()) := by
      unfold fm_M_allFirstAtoms fb_M_allFirstAtoms_0
      rw [q_ls, q_ls, q_ls]
      exact r1
    rw [e, q_bn]
end TKS
