theorem gr_mem : ∀ k : Nat, k < 256 → ((¬ ((I ((k : Int) - 128) &&& 255) < 65) ∧ (I ((k : Int) - 128) &&& 255) ≤ 90) ∨ (I ((k : Int) - 128) &&& 255) = 95) → I ((k : Int) - 128) ∈ G27 := by
  decide +kernel
def BYT (u : MS) : Prop := ∀ i, -128 ≤ A u 4 i ∧ A u 4 i ≤ 127
theorem cnt_up (c : Int32) (seen : Int32 → Bool) : ∀ l : List Int32, c ∈ l → seen c = false → l.countP seen + 1 ≤ l.countP (fun d => if d = c then true else seen d) := by
  have le : ∀ l : List Int32, l.countP seen ≤ l.countP (fun d => if d = c then true else seen d) := fun l => by
    induction l with
    | nil => exact Nat.le_refl _
    | cons a l ih =>
      rw [List.countP_cons, List.countP_cons]
      by_cases z : a = c
      · simp only [z, if_true]; split <;> omega
      · simp only [z, if_false]; omega
  intro l
  induction l with
  | nil => intro h; cases h
  | cons a l ih =>
    intro h hs
    rw [List.countP_cons, List.countP_cons]
    by_cases z : a = c
    · have := le l
      have e1 : seen a = false := by rw [z]; exact hs
      have e2 : (if a = c then true else seen a) = true := if_pos z
      rw [e2, e1, if_neg (by decide), if_pos rfl]
      omega
    · rcases List.mem_cons.mp h with q | q
      · exact absurd q.symm z
      · have := ih q hs
        simp only [z, if_false]
        omega
section
variable {u w x : MS} {N tn e n : Nat} {p p2 s y : Int} {bw : Nat → Nat} {c : Int32}
theorem gr_in (hb : BYT w) (hp : 0 ≤ p ∧ p < F w 5) (h : grB (byI w p)) : w.2.2.1 4 p.toNat ∈ G27 := by
  unfold byI at h
  rw [if_neg (by omega)] at h
  have b := hb p.toNat
  have e : w.2.2.1 4 p.toNat = I (((A w 4 p.toNat + 128).toNat : Int) - 128) := by rw [I_A]; congr 1; omega
  have g := gr_mem (A w 4 p.toNat + 128).toNat (by omega)
  rw [← e] at g
  exact g h
theorem TBI_fr (f : FR [9, 10, 11] [] [6, 7, 8] [] w x) (h : TBI w p) (hp : p ≤ p2) (hq : p + 1 ≤ p2 ∨ ¬ inB (byI x p2)) : TBI x p2 := by
  have eF : ∀ k, k ∈ [5, 14, 17, 20] → F x k = F w k := fun k hk => f.F (by
    have : ∀ k, k ∈ [5, 14, 17, 20] → k ∉ [9, 10, 11] := by decide
    exact this k hk)
  have eA : ∀ r i, r ∈ [12, 13, 15, 16, 18, 19] → A x r i = A w r i := fun r i hr => f.A (by
    have : ∀ r, r ∈ [12, 13, 15, 16, 18, 19] → r ∉ [6, 7, 8] := by decide
    exact this r hr)
  have e15 : ∀ i, x.2.2.1 15 i = w.2.2.1 15 i := fun i => by rw [f.2.2.1 15 (by decide)]
  obtain ⟨z0, ⟨a1, ⟨a2, a3, a4⟩, a5⟩, ⟨⟨b1, b2, b3⟩, b4, b5⟩, n1, n2, ⟨c1, ⟨c2, c3⟩, seen, c4, c5⟩, c6, c7, c8, c9⟩ := h
  refine ⟨⟨by rw [eA 13 _ (by decide)]; exact z0.1, by rw [eA 16 _ (by decide)]; exact z0.2.1, by rw [eA 19 _ (by decide)]; exact z0.2.2⟩, ⟨?_, ⟨?_, ?_, fun k hk => ?_⟩, ?_⟩, ⟨⟨?_, ?_, fun k hk => ?_⟩, ?_, ?_⟩, n1, n2, ⟨?_, ⟨c2, fun k hk => ?_⟩, seen, c4, fun c hc => ?_⟩, ?_, ?_, ?_, fun q => ?_⟩
  · rw [eF 14 (by decide)]; exact a1
  · rw [eF 14 (by decide)]; exact a2
  · rw [eF 14 (by decide)]; exact a3
  · rw [eF 14 (by decide)] at hk ⊢; rw [eA 13 _ (by decide), eA 13 _ (by decide)]; exact a4 k hk
  · rw [eF 14 (by decide), eA 13 _ (by decide)]; omega
  · rw [eF 20 (by decide)]; exact b1
  · rw [eF 20 (by decide)]; exact b2
  · rw [eF 20 (by decide)] at hk ⊢; rw [eA 19 _ (by decide), eA 19 _ (by decide)]; exact b3 k hk
  · rw [eF 20 (by decide)]; omega
  · rw [eF 20 (by decide), eA 19 _ (by decide)]; omega
  · rw [eF 17 (by decide)]; exact c1
  · rw [eA 16 _ (by decide), eA 16 _ (by decide)]; exact c3 k hk
  · obtain ⟨k, d1, d2, d3⟩ := c5 c hc
    exact ⟨k, d1, by rw [eA 16 _ (by decide), eA 16 _ (by decide)]; exact d2, by rw [eA 16 _ (by decide), e15]; exact d3⟩
  · rw [eA 16 _ (by decide)]; omega
  · rw [eF 14 (by decide), eF 5 (by decide)]; exact c7
  · rw [eF 14 (by decide)]; omega
  · rw [eF 14 (by decide)]
    rcases hq with z | z
    · omega
    · exact absurd q z
end
