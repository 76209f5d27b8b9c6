/-! expressions: how they begin -/
set_option maxRecDepth 100000
def BGk (v : Int) : Prop := v = 1 ∨ v = 2 ∨ v = 3 ∨ v = 4 ∨ v = 7 ∨ v = 8 ∨ v = 9 ∨ v = 12 ∨ v = 13 ∨ v = 14 ∨ v = 17 ∨ v = 20 ∨ v = 22 ∨ v = 24 ∨ v = 34
section
variable {u : MS} {f o cl n lo hi a b q r : Nat}
theorem pa_beg (h : PAcK u f n lo hi a b q r) : BGk (A u 6 lo) := by
  unfold BGk
  cases f with
  | zero => exact h.elim
  | succ f =>
    obtain ⟨-, -, -, h⟩ := h
    rcases h with ⟨h, -⟩ | ⟨-, m, -, -, -, -, -, h⟩ | ⟨-, m, c, -, -, -, h, -⟩ | ⟨-, k, m, c, -, -, h, -⟩ | ⟨-, k, m, mid, c, s, -, -, h, -⟩
    · have := h.2.1; omega
    · omega
    · omega
    · have := h.2.1; omega
    · have := h.2.1; omega
theorem xp_beg : ∀ {f o cl n lo hi a b q r : Nat}, XPcK u f o cl n lo hi a b q r → BGk (A u 6 lo)
  | 0, _, _, _, _, _, _, _, _, _, h => h.elim
  | f + 1, o, cl, n, lo, hi, a, b, q, r, h => by
    obtain ⟨-, -, -, h4⟩ := h
    rcases h4 with ⟨h4, -⟩ | ⟨h4, m, c, h5, h6, h7, hk, -⟩ | ⟨h4, h5, hk⟩ | ⟨h4, h5, hk⟩ | ⟨h4, k, m, c, h5, h6, h7, hk, -⟩ | ⟨h4, x, mid, c, s, k, m, c2, h5, h6, h7, h8, h9, hk, -⟩ | ⟨h4, k, m, c, h5, h6, h7, hk, -⟩ | ⟨h4, k, m, m1, c1, s1, h5, h6, h7⟩ | ⟨h4, k, m, ph, c, h5, h6, h7, h8, h9, h10, h11, h12, hk, -⟩ | h4 | ⟨h4, h5, k, m, a2, c, h6, h7, h8, h9, h10, h11, hk, -⟩ | ⟨h4, h5, x, mid, c, s, k, m, h6, h7, -⟩ | ⟨h4, h5, m, c, h6, h7, h8, h9, h10⟩ | ⟨h4, h5, m, c, h6, h7, h8, hk⟩ | ⟨h4, h5, x, y, mid, c, c2, h6, h7, -⟩ | ⟨h4, h5, x, y, mid, c, c2, s, h6, h7, -⟩ | ⟨h4, h5, j, m, c, h6, h7, -⟩
    · have := h4.2.1; unfold BGk; omega
    · unfold BGk; omega
    · obtain ⟨-, -, -, -, -, ⟨-, h, -⟩, -⟩ := h5; unfold BGk; omega
    · obtain ⟨-, -, -, -, -, -, -, ⟨-, h, -⟩, -⟩ := h5; unfold BGk; omega
    · unfold BGk; omega
    · unfold BGk; omega
    · unfold BGk; omega
    · unfold BGk
      rcases h7 with ⟨-, -, -, -, -, -, hk, -⟩ | ⟨x, m2, c2, s2, kb, mb, c3, -, -, -, -, -, -, hk, -⟩
      · omega
      · omega
    · unfold BGk; omega
    · have := h4.2.1.2.1; unfold BGk; omega
    · unfold BGk; omega
    · exact xp_beg h7
    · unfold BGk
      rcases h4 with h4 | h4
      · have := h9 h4; omega
      · have := h10 h4; omega
    · unfold BGk; omega
    · exact pa_beg h7
    · exact xp_beg h7
    · cases j with
      | zero => exact absurd h7.2.2.2.2.2 (by decide)
      | succ j =>
        obtain ⟨-, n2, x2, c2, q2, S2, g2, h, -⟩ := h7
        rcases h with ⟨⟨m1, h, -⟩, -⟩ | ⟨-, h, -⟩
        · exact xp_beg h
        · cases h
theorem rw_beg {d z k : Nat} (h : RWcK u d z (XPcK u f o cl) k n lo hi a b q r) : BGk (A u 6 lo) := by
  cases k with
  | zero => exact h.elim
  | succ k =>
    obtain ⟨m, c, s, h, -⟩ := h
    exact xp_beg h
theorem BG_ne {v : Int} (h : BGk v) : v ≠ 21 ∧ v ≠ 23 ∧ v ≠ 25 ∧ v ≠ 5 ∧ v ≠ 11 := by
  unfold BGk at h
  omega
end
