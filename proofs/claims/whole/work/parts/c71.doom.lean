/-! patterns are tried, there alone: what is doomed fails -/
set_option maxRecDepth 100000
/-- code i to j is one pattern -/
def PCq (C : Nat → Int) : Nat → Nat → Nat → Prop
  | 0, _, _ => False
  | f + 1, i, j => (C i = 1 ∧ j = i + 3) ∨ (C i = 2 ∧ ∃ l : Nat, C (i + 1) = ((l : Nat) : Int) ∧ j = i + 2 + l) ∨ ((C i = 3 ∨ C i = 4) ∧ j = i + 2) ∨ (C i = 5 ∧ j = i + 1) ∨ (C i = 6 ∧ ∃ n : Nat, C (i + 1) = ((n : Nat) : Int) ∧ n ≤ 8 ∧ ∃ ci : Nat → Nat, ci 0 = i + 2 ∧ ci n = j ∧ ∀ k, k < n → PCq C f (ci k) (ci (k + 1))) ∨ (C i = 7 ∧ ∃ h, PCq C f (i + 1) h ∧ PCq C f h j)
/-- some patterns fit or not, then one cannot fit; idx: where the uppermost term stands -/
def DMr (C : Nat → Int) (s : Nat → Int64) : Nat → Nat → Nat → Prop
  | 0, i, idx => i + 2 < 24000 ∧ ((C i = 7 ∧ so (s idx) ≠ 7) ∨ (C i = 1 ∧ s idx ≠ mk (C (i + 1)) (C (i + 2))))
  | r + 1, i, idx => ∃ f j, PCq C f i j ∧ j < 24000 ∧ 0 < idx ∧ DMr C s r j (idx - 1)
section
variable {C : Nat → Int} {R : Nat → Nat → Int} {J : Nat → Int64} {H O O2 : List Nat} {f g i p j q N M r idx cnt k : Nat} {m m2 m3 : MS} {t : Int64} {s s2 : Nat → Int64}
theorem PCq_up : ∀ {f i j : Nat}, PCq C f i j → PCq C (f + 1) i j
  | 0, _, _, z => z.elim
  | f + 1, i, j, z => by
    rcases z with z | z | z | z | ⟨z, n, z1, z2, ci, z3, z4, z5⟩ | ⟨z, h, z1, z2⟩
    · exact Or.inl z
    · exact Or.inr (Or.inl z)
    · exact Or.inr (Or.inr (Or.inl z))
    · exact Or.inr (Or.inr (Or.inr (Or.inl z)))
    · exact Or.inr (Or.inr (Or.inr (Or.inr (Or.inl ⟨z, n, z1, z2, ci, z3, z4, fun k hk => PCq_up (z5 k hk)⟩))))
    · exact Or.inr (Or.inr (Or.inr (Or.inr (Or.inr ⟨z, h, PCq_up z1, PCq_up z2⟩))))
theorem PCq_le (d : Nat) (h : PCq C f i j) : PCq C (f + d) i j := by
  induction d with
  | zero => exact h
  | succ d ih => exact PCq_up ih
theorem PCq_lt : ∀ {f i j : Nat}, PCq C f i j → i < j
  | 0, _, _, z => z.elim
  | f + 1, i, j, z => by
    rcases z with ⟨-, z⟩ | ⟨-, l, -, z⟩ | ⟨-, z⟩ | ⟨-, z⟩ | ⟨z, n, z1, z2, ci, z3, z4, z5⟩ | ⟨z, h, z1, z2⟩
    · omega
    · omega
    · omega
    · omega
    · have := up_le (c := ci) (n := n) (fun k hk => Nat.le_of_lt (PCq_lt (z5 k hk))) n 0 (by omega)
      rw [Nat.zero_add, z4, z3] at this
      omega
    · have := PCq_lt z1
      have := PCq_lt z2
      omega
/-- a pattern of both is one of the code -/
theorem PTs_PC : ∀ {f i p j : Nat} {O O2 : List Nat}, PTs C R J H f i p O j O2 → ∃ g, PCq C g i j
  | 0, _, _, _, _, _, z => z.elim
  | f + 1, i, p, j, O, O2, z => by
    rcases z with ⟨-, z1, z, -⟩ | ⟨-, z1, z, -⟩ | ⟨-, z1, z, -⟩ | ⟨-, z1, z, -⟩ | ⟨-, z1, -, l, ⟨s0, b, -, -, -, z2, -⟩, z⟩ | ⟨-, z1, z2, n, ⟨z3, z4⟩, ci, cp, co, c0, cn, -, -, -, -, z⟩ | ⟨-, n, -, ci, cp, co, c0, -, -, z, e⟩
    · exact ⟨1, Or.inr (Or.inr (Or.inr (Or.inl ⟨z1, z⟩)))⟩
    · exact ⟨1, Or.inr (Or.inr (Or.inl ⟨Or.inr z1, z⟩))⟩
    · exact ⟨1, Or.inr (Or.inr (Or.inl ⟨Or.inl z1, z⟩))⟩
    · exact ⟨1, Or.inl ⟨z1, z⟩⟩
    · exact ⟨1, Or.inr (Or.inl ⟨z1, l, z2, z⟩)⟩
    · have hg : ∀ d, d ≤ n → ∃ g, ∀ k, k < d → PCq C g (ci k) (ci (k + 1)) := by
        intro d
        induction d with
        | zero => intro _; exact ⟨0, fun k hk => by omega⟩
        | succ d ih =>
          intro hd
          obtain ⟨g1, h1⟩ := ih (by omega)
          obtain ⟨g2, h2⟩ := PTs_PC (z d (by omega)).1
          refine ⟨g1 + g2, fun k hk => ?_⟩
          by_cases e : k = d
          · subst e
            rw [Nat.add_comm]
            exact PCq_le g1 h2
          · exact PCq_le g2 (h1 k (by omega))
      obtain ⟨g, hg⟩ := hg n (Nat.le_refl _)
      exact ⟨g + 1, Or.inr (Or.inr (Or.inr (Or.inr (Or.inl ⟨z1, n, by rw [z2, z3], z4, ci, c0, cn, hg⟩))))⟩
    · have last : ∃ g, PCq C g (ci n) j := by
        rcases e with ⟨-, e1, -, -, e, -⟩ | ⟨-, -, -, e⟩
        · exact ⟨1, Or.inl ⟨e1, e⟩⟩
        · exact PTs_PC e
      have hg : ∀ d, d ≤ n → ∃ g, PCq C g (ci (n - d)) j := by
        intro d
        induction d with
        | zero => intro _; exact last
        | succ d ih =>
          intro hd
          obtain ⟨g1, h1⟩ := ih (by omega)
          obtain ⟨z1, z2, -⟩ := z (n - (d + 1)) (by omega)
          obtain ⟨g2, h2⟩ := PTs_PC z2
          rw [show n - (d + 1) + 1 = n - d by omega] at h2
          refine ⟨g1 + g2 + 1, Or.inr (Or.inr (Or.inr (Or.inr (Or.inr ⟨z1, ci (n - d), ?_, PCq_le g2 h1⟩))))⟩
          rw [Nat.add_comm]
          exact PCq_le g1 h2
      obtain ⟨g, h⟩ := hg n (Nat.le_refl _)
      rw [Nat.sub_self, c0] at h
      exact ⟨g, h⟩
theorem DMr_ag : ∀ {r i idx : Nat}, DMr C s r i idx → (∀ k, k ≤ idx → s2 k = s k) → DMr C s2 r i idx
  | 0, i, idx, h, e => by
    unfold DMr at h ⊢
    rw [e idx (Nat.le_refl _)]
    exact h
  | r + 1, i, idx, ⟨f, j, h1, h0, h2, h3⟩, e => ⟨f, j, h1, h0, h2, DMr_ag h3 (fun k hk => e k (by omega))⟩
/-- more patterns ahead -/
theorem DMr_app {ci : Nat → Nat} {n : Nat} (h : ∀ k, k < n → PCq C f (ci k) (ci (k + 1))) (hb : ∀ k, k ≤ n → ci k < 24000) (hd : DMr C s r (ci n) idx) : ∀ d, d ≤ n → DMr C s (r + d) (ci (n - d)) (idx + d) := by
  intro d
  induction d with
  | zero => intro _; exact hd
  | succ d ih =>
    intro hd2
    have := h (n - (d + 1)) (by omega)
    rw [show n - (d + 1) + 1 = n - d by omega] at this
    exact ⟨f, ci (n - d), this, hb _ (by omega), by omega, ih (by omega)⟩
end
