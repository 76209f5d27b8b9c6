/-! patterns are tried, there alone -/
set_option maxRecDepth 100000
section
variable {C : Nat → Int} {R : Nat → Nat → Int} {J : Nat → Int64} {H O O2 : List Nat} {f g i p j q N M top cnt k : Nat} {m m2 m3 : MS} {t : Int64}
/-- a longer chain rises -/
theorem up_le {c : Nat → Nat} {n : Nat} (h : ∀ k, k < n → c k ≤ c (k + 1)) : ∀ d k, k + d ≤ n → c k ≤ c (k + d) := by
  intro d
  induction d with
  | zero => intro k _; exact Nat.le_refl _
  | succ d ih =>
    intro k hk
    have h1 := ih k (by omega)
    have h2 := h (k + d) (by omega)
    rw [show k + (d + 1) = k + d + 1 by omega]
    omega
theorem PTs_lt : ∀ {f i p j : Nat} {O O2 : List Nat}, PTs C R J H f i p O j O2 → i < j
  | 0, _, _, _, _, _, z => z.elim
  | f + 1, i, p, j, O, O2, z => by
    rcases z with ⟨-, -, z, -⟩ | ⟨-, -, z, -⟩ | ⟨-, -, z, -⟩ | ⟨-, -, z, -⟩ | ⟨-, -, -, l, -, z⟩ | ⟨-, -, -, n, -, ci, cp, co, c0, cn, -, -, -, -, z⟩ | ⟨-, n, -, ci, cp, co, c0, -, -, z, e⟩
    · omega
    · omega
    · omega
    · omega
    · omega
    · have := up_le (c := ci) (n := n) (fun k hk => Nat.le_of_lt (PTs_lt (z k hk).1)) n 0 (by omega)
      rw [Nat.zero_add, cn, c0] at this
      omega
    · have h1 := up_le (c := ci) (n := n) (fun k hk => by have := PTs_lt (z k hk).2.1; omega) n 0 (by omega)
      rw [Nat.zero_add, c0] at h1
      rcases e with ⟨-, -, -, -, e, -⟩ | ⟨-, -, -, e⟩
      · omega
      · have := PTs_lt e
        omega
/-- trying patterns leaves the cells, the code, what waits, the BOX -/
def FIx (q : Nat) (m m2 : MS) : Prop := FC q [] [] [] [24, 42, 43] [] [32] [33] m m2
theorem FIx.rf : FIx q m m := FC.rf
theorem FIx.tr (a : FIx q m m2) (c : FIx q m2 m3) : FIx q m m3 := FC.tr a c
theorem FIx.st {y : Nat} {z : Int64} : FIx q m (wj m 44 y z) := FC.J_g FC.rf (by simp)
end
