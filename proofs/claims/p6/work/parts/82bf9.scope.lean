set_option maxRecDepth 100000
abbrev SCT := List (List Nat × List Nat × Nat)
def tot : SCT → Nat
  | [] => 0
  | e :: t => tot t + e.1.length
def RW1 (w : MS) (s : Nat) (e : List Nat × List Nat × Nat) : Prop := w.2.2.1 60 s = I (e.1.length : Nat) ∧ (∀ k x, e.1[k]? = some x → w.2.2.1 59 (1400 * s + k) = I (x : Nat)) ∧ w.2.2.1 63 s = I (e.2.1.length : Nat) ∧ (∀ k x, e.2.1[k]? = some x → w.2.2.1 61 (1400 * s + k) = I (x : Nat)) ∧ w.2.2.1 64 s = I (e.2.2 : Nat)
def RNl (w : MS) : SCT → Prop
  | [] => True
  | e :: t => RW1 w t.length e ∧ RNl w t
def HLx (x : Nat) : SCT → Prop
  | [] => False
  | e :: t => x ∈ e.1 ∨ ((x ∈ e.2.1 ∨ 60 ≤ e.2.1.length) ∧ HLx x t)
def SOK : SCT → Prop
  | [] => True
  | e :: t => (e.1.Nodup ∧ (∀ x, x ∈ e.1 → x < 1400) ∧ e.2.1.length ≤ 60 ∧ e.1.length ≤ e.2.2 ∧ e.2.2 ≤ 1400 ∧ (∀ x, x ∈ e.2.1 → HLx x t) ∧ e.2.1.Nodup) ∧ SOK t
def RNs (w : MS) (sc : SCT) : Prop := w.1 65 = I ((sc.length - 1 : Nat) : Int) ∧ (1 ≤ sc.length ∧ sc.length ≤ 27) ∧ RNl w sc ∧ SOK sc
def fnd (x : Nat) (sc : SCT) : Prop := ∃ e, e ∈ sc ∧ x ∈ e.1
theorem HLx_fnd {x : Nat} : ∀ {sc : SCT}, HLx x sc → fnd x sc
  | [], h => h.elim
  | e :: t, h => by
    rcases h with h | ⟨-, h⟩
    · exact ⟨e, List.mem_cons_self, h⟩
    · obtain ⟨d, a, b⟩ := HLx_fnd h
      exact ⟨d, List.mem_cons_of_mem _ a, b⟩
section
variable {w v : MS} {sc t : SCT} {e : List Nat × List Nat × Nat} {s x : Nat}
theorem nd_len : ∀ (n : Nat) (l : List Nat), l.Nodup → (∀ x, x ∈ l → x < n) → l.length ≤ n
  | 0, l, _, h => by
    cases l with
    | nil => exact Nat.le_refl _
    | cons a l => exact absurd (h a List.mem_cons_self) (Nat.not_lt_zero _)
  | n + 1, l, nd, h => by
    have h1 : (l.filter (fun x => x != n)).length ≤ n := nd_len n _ (nd.filter _) (fun x hx => by
      have := List.mem_filter.mp hx
      have a := h x this.1
      have b : x ≠ n := by simpa using this.2
      omega)
    have h2 : l.length ≤ (l.filter (fun x => x != n)).length + 1 := by
      clear h1 h
      induction l with
      | nil => exact Nat.zero_le _
      | cons a l ih =>
        have na := List.nodup_cons.mp nd
        by_cases e : a = n
        · have : l.filter (fun x => x != n) = l := List.filter_eq_self.mpr (fun y hy => by
            have : y ≠ n := fun z => na.1 (by rw [e, ← z]; exact hy)
            simpa using this)
          rw [List.filter_cons, e]
          simp [this]
        · rw [List.filter_cons]
          have : (a != n) = true := by simpa using e
          rw [if_pos this]
          have := ih na.2
          simp only [List.length_cons]
          omega
    omega
end
