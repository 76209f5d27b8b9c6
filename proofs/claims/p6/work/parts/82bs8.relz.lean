set_option maxRecDepth 100000
def TPf (m w : MS) : Prop := (m.1 182 = Int32.ofNat 15 ∧ (∀ j, j < 62 → m.2.2.1 10 j = sgW j) ∧ (∀ j, j ≤ 15 → m.2.2.1 11 j = Int32.ofNat (frW j)) ∧ w.2.2.1 0 = mS0.2.2.1 0 ∧ w.2.2.1 21 = mS0.2.2.1 21 ∧ w.2.2.1 22 = mS0.2.2.1 22 ∧ w.2.2.1 1 = mS0.2.2.1 1 ∧ w.2.2.1 2 = mS0.2.2.1 2) ∧ (∀ j, j < 139 → m.2.2.1 2 j = sa0 j) ∧ (∀ j, j ≤ 22 → m.2.2.1 3 j = Int32.ofNat (fa0 j)) ∧ m.2.2.1 13 0 = 95 ∧ (m.2.2.1 14 0 = 0 ∧ m.2.2.1 14 1 = 1) ∧ w.2.2.1 13 0 = 0 ∧ w.2.2.1 16 0 = 0 ∧ w.2.2.1 19 0 = 0
def TAPE (m w : MS) : Prop := ∀ j : Nat, ((j : Nat) : Int) < F m 81 → m.2.2.1 5 j = w.2.2.1 4 j
def ACZ (m w : MS) : Prop := (m.1 10 = 0 ∧ w.1 86 = 0) ∨ (m.1 10 = 1 ∧ w.1 86 = 1 ∧ TBA m w ∧ ∃ fa na, ATf m w fa na)
def RZf (m w : MS) : Prop := F m 81 = F w 5 ∧ TAPE m w ∧ TPf m w ∧ CW36 m ∧ ACZ m w
section
variable {u : CS} {m w m2 w2 : MS} {N : Nat} {c : Nat → Nat}
theorem TP_RS (R : RS m u) (h : TPf m w) : TP u w := by
  obtain ⟨⟨a1, a2, a3, a4⟩, b1, b2, b3, b4, b5⟩ := h
  have rA : ∀ i, i < 57 → AI u i = m.2.2.1 i := R.2.2.2.1
  refine ⟨⟨?_, fun j hj => by rw [rA 10 (by decide)]; exact a2 j hj, fun j hj => by rw [rA 11 (by decide)]; exact a3 j hj, a4⟩, fun j hj => by rw [rA 2 (by decide)]; exact b1 j hj, fun j hj => by rw [rA 3 (by decide)]; exact b2 j hj, by rw [rA 13 (by decide)]; exact b3, by rw [rA 14 (by decide)]; exact b4, b5⟩
  rw [R.2.1 9 2 (by decide) (by decide)]
  exact a1
theorem TPf_of (R : RS m u) (h : TP u w) : TPf m w := by
  obtain ⟨⟨a1, a2, a3, a4⟩, b1, b2, b3, b4, b5⟩ := h
  have rA : ∀ i, i < 57 → AI u i = m.2.2.1 i := R.2.2.2.1
  refine ⟨⟨?_, fun j hj => by rw [← rA 10 (by decide)]; exact a2 j hj, fun j hj => by rw [← rA 11 (by decide)]; exact a3 j hj, a4⟩, fun j hj => by rw [← rA 2 (by decide)]; exact b1 j hj, fun j hj => by rw [← rA 3 (by decide)]; exact b2 j hj, by rw [← rA 13 (by decide)]; exact b3, by rw [← rA 14 (by decide)]; exact b4, b5⟩
  rw [← a1, R.2.1 9 2 (by decide) (by decide)]
theorem TPf_k (h : TPf m w) (e1 : m2.1 182 = m.1 182) (e2 : ∀ k, k ∈ [2, 3, 10, 11, 13, 14] → m2.2.2.1 k = m.2.2.1 k) (e3 : ∀ k, k ∈ [0, 1, 2, 13, 16, 19, 21, 22] → w2.2.2.1 k = w.2.2.1 k) : TPf m2 w2 := by
  unfold TPf at h ⊢
  rw [e1, e2 2 (by decide), e2 3 (by decide), e2 10 (by decide), e2 11 (by decide), e2 13 (by decide), e2 14 (by decide), e3 0 (by decide), e3 1 (by decide), e3 2 (by decide), e3 13 (by decide), e3 16 (by decide), e3 19 (by decide), e3 21 (by decide), e3 22 (by decide)]
  exact h
theorem CW36_k (h : CW36 m) (e1 : m2.1 722 = m.1 722) (e2 : m2.2.2.1 37 = m.2.2.1 37) (e3 : m2.2.2.1 38 = m.2.2.1 38) : CW36 m2 := by
  unfold CW36 at h ⊢
  rw [e1, e2, e3]
  exact h
theorem ATf_k {fa : Nat → Nat} {na : Nat} (h : ATf m w fa na) (e1 : m2.1 22 = m.1 22) (e2 : m2.2.2.1 2 = m.2.2.1 2) (e3 : m2.2.2.1 3 = m.2.2.1 3) (e4 : w2.1 14 = w.1 14) (e5 : w2.2.2.1 12 = w.2.2.1 12) (e6 : w2.2.2.1 13 = w.2.2.1 13) : ATf m2 w2 fa na := by
  unfold ATf at h ⊢
  rw [e1, e2, e3, e4, e5, e6]
  exact h
theorem TBA_k (h : TBA m w) (e1 : m2.1 442 = m.1 442) (e2 : ∀ k, 24 ≤ k → k ≤ 28 → m2.2.2.1 k = m.2.2.1 k) (e3 : w2.1 52 = w.1 52) (e4 : ∀ k, 47 ≤ k → k ≤ 51 → w2.2.2.1 k = w.2.2.1 k) (e5 : w2.2.2.1 8 = w.2.2.1 8) : TBA m2 w2 := by
  unfold TBA at h ⊢
  rw [e1, e3, e2 24 (by decide) (by decide), e2 25 (by decide) (by decide), e2 26 (by decide) (by decide), e2 28 (by decide) (by decide), e4 47 (by decide) (by decide), e4 48 (by decide) (by decide), e4 49 (by decide) (by decide), e4 51 (by decide) (by decide), e5]
  exact h
theorem ACZ_k (h : ACZ m w) (e0 : m2.1 10 = m.1 10) (f0 : w2.1 86 = w.1 86) (e1 : m2.1 22 = m.1 22 ∧ m2.1 442 = m.1 442) (e2 : ∀ k, k = 2 ∨ k = 3 ∨ (24 ≤ k ∧ k ≤ 28) → m2.2.2.1 k = m.2.2.1 k) (e4 : w2.1 14 = w.1 14 ∧ w2.1 52 = w.1 52) (e5 : ∀ k, k = 8 ∨ k = 12 ∨ k = 13 ∨ (47 ≤ k ∧ k ≤ 51) → w2.2.2.1 k = w.2.2.1 k) : ACZ m2 w2 := by
  rcases h with h | ⟨h1, h2, h3, fa, na, h4⟩
  · exact Or.inl ⟨e0.trans h.1, f0.trans h.2⟩
  · exact Or.inr ⟨e0.trans h1, f0.trans h2, TBA_k h3 e1.2 (fun k k1 k2 => e2 k (by omega)) e4.2 (fun k k1 k2 => e5 k (by omega)) (e5 8 (by omega)), fa, na, ATf_k h4 e1.1 (e2 2 (by omega)) (e2 3 (by omega)) e4.1 (e5 12 (by omega)) (e5 13 (by omega))⟩
theorem RZ_k (h : RZf m w) (k : KPS m m2) (f5 : w2.1 5 = w.1 5) (g : Kgc w w2) : RZf m2 w2 := by
  obtain ⟨h1, h2, h3, h4, h5⟩ := h
  have e81 : F m2 81 = F m 81 := congrArg Int32.toInt (k.1 81 (by omega))
  refine ⟨?_, fun j hj => ?_, TPf_k h3 (k.1 182 (by omega)) (fun j hj => k.2.1 j (by revert hj; simp only [List.mem_cons, List.not_mem_nil, or_false]; omega)) (fun j hj => g.2 j (by revert hj; simp only [List.mem_cons, List.not_mem_nil, or_false]; omega)), CW36_k h4 (k.1 722 (by omega)) (k.2.1 37 (by omega)) (k.2.1 38 (by omega)), ACZ_k h5 (k.1 10 (by omega)) (g.1 86 (by omega)) ⟨k.1 22 (by omega), k.1 442 (by omega)⟩ (fun j hj => k.2.1 j (by omega)) ⟨g.1 14 (by omega), g.1 52 (by omega)⟩ (fun j hj => g.2 j (by omega))⟩
  · rw [e81, h1]
    exact congrArg Int32.toInt f5.symm
  · rw [k.2.1 5 (by omega), g.2 4 (by omega)]
    exact h2 j (by rw [← e81]; exact hj)
end
