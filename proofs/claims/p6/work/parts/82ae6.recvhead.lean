def EQX (σ n0 : Nat) (V X : MS) : Prop := F X 14 = F V 14 ∧ (∀ r i : Nat, r ∈ [23, 24, 25, 26, 27, 28, 29, 30, 31] → n0 ≤ i → (i : Int) < F V 32 → A X r i = A V r i) ∧ (∀ r i : Nat, r ∈ [40, 41, 42, 43, 45] → (i : Int) < F V 46 → A X r i = A V r i) ∧ (∀ r i : Nat, r ∈ [33, 35, 36, 37, 38] → (i : Int) < F V 39 → A X r i = A V r i) ∧ (∀ r i : Nat, r ∈ [53, 54, 55] → (i : Int) < F V 56 → A X r i = A V r i) ∧ (∀ i : Nat, (i : Int) < F V 58 → A X 57 i = A V 57 i) ∧ (hlo σ V ≤ hlo σ X ∧ A V 64 σ ≤ A X 64 σ) ∧ (F V 32 ≤ F X 32 ∧ F V 46 ≤ F X 46 ∧ F V 39 ≤ F X 39 ∧ F V 56 ≤ F X 56 ∧ F V 58 ≤ F X 58) ∧ (F X 72 = 0 → F V 72 = 0) ∧ (F X 66 = 0 → F V 66 = 0)
section
variable {u0 u v w x V X : MS} {σ SN n0 : Nat} {wt : Int}
theorem EQX_tr (a : EQX σ n0 v w) (b : EQX σ n0 w x) : EQX σ n0 v x := by
  obtain ⟨a1, a2, a3, a4, a5, a6, a7, a8, a9, a10⟩ := a
  obtain ⟨b1, b2, b3, b4, b5, b6, b7, b8, b9, b10⟩ := b
  exact ⟨b1.trans a1, fun r i hr h1 h2 => (b2 r i hr h1 (by omega)).trans (a2 r i hr h1 h2), fun r i hr h2 => (b3 r i hr (by omega)).trans (a3 r i hr h2), fun r i hr h2 => (b4 r i hr (by omega)).trans (a4 r i hr h2), fun r i hr h2 => (b5 r i hr (by omega)).trans (a5 r i hr h2), fun i h2 => (b6 i (by omega)).trans (a6 i h2), by omega, by omega, fun z => a9 (b9 z), fun z => a10 (b10 z)⟩
theorem EQX_kp (k : KPR σ v w) : EQX σ n0 v w := by
  have n := KPR_n k
  obtain ⟨a0, ⟨a1, a2, a3, a4, a5⟩, -, -, a13, a14, a15⟩ := k
  exact ⟨a0.F (by decide), fun r i hr _ h2 => a1 r i hr h2, a3, a2, a4, a5, n.2, by omega, a14, a15⟩
theorem EQX_wa {r i : Nat} {y : Int} (hr : r ∈ [23, 24, 25, 26, 27, 28, 29, 30, 31, 60]) (hi : i < n0 ∨ F v 32 ≤ i ∨ r = 60) : EQX σ n0 v (wa v r i y) := by
  have m1 : ∀ r, r ∈ [23, 24, 25, 26, 27, 28, 29, 30, 31, 60] → r ∉ [40, 41, 42, 43, 45] ∧ r ∉ [33, 35, 36, 37, 38] ∧ r ∉ [53, 54, 55] ∧ r ≠ 57 ∧ r ≠ 63 ∧ r ≠ 64 := by decide
  have m2 : (60 : Nat) ∉ [23, 24, 25, 26, 27, 28, 29, 30, 31] := by decide
  obtain ⟨t1, t2, t3, t4, t5, t6⟩ := m1 r hr
  refine ⟨rfl, fun r' i' hr' h1 h2 => ?_, fun r' i' hr' _ => wa_rne (fun z => t1 (z ▸ hr')), fun r' i' hr' _ => wa_rne (fun z => t2 (z ▸ hr')), fun r' i' hr' _ => wa_rne (fun z => t3 (z ▸ hr')), fun i' _ => wa_rne (fun z => t4 z.symm), ⟨?_, ?_⟩, ?_, fun z => z, fun z => z⟩
  · by_cases z : r' = r
    · rcases hi with hi | hi | hi
      · exact wa_ne (by omega)
      · exact wa_ne (by omega)
      · rw [z, hi] at hr'; exact absurd hr' m2
    · exact wa_rne z
  · unfold hlo; rw [wa_rne (fun z => t5 z.symm)]; exact Nat.le_refl _
  · rw [wa_rne (fun z => t6 z.symm)]; exact Int.le_refl _
  · simp only [F_wa]; omega
theorem EQX_trn {R0 : Nat} {y : Int} {M : Nat → Nat} (t : TRN σ wt 0 (wa v 28 R0 y) x (mks v)) (hR : R0 < n0) (hc : F v 32 ≤ F x 32 ∧ F v 46 ≤ F x 46 ∧ F v 39 ≤ F x 39 ∧ F v 56 ≤ F x 56 ∧ F v 58 ≤ F x 58) (h0 : 0 ≤ F v 32) (z1 : F x 72 = 0 → F v 72 = 0) (z2 : F x 66 = 0 → F v 66 = 0) : EQX σ n0 v x := by
  obtain ⟨a1, ⟨a2, a3, a4, a5, a6⟩, a7, -⟩ := t
  have m0 : mks v 0 = (F v 32).toNat := rfl
  have m1 : mks v 1 = (F v 46).toNat := rfl
  have m2 : mks v 2 = (F v 39).toNat := rfl
  have m3 : mks v 3 = (F v 56).toNat := rfl
  have m4 : mks v 4 = (F v 58).toNat := rfl
  have n3 : ∀ r, r ∈ [40, 41, 42, 43, 45] → r ≠ 28 := by decide
  have n4 : ∀ r, r ∈ [33, 35, 36, 37, 38] → r ≠ 28 := by decide
  have n5 : ∀ r, r ∈ [53, 54, 55] → r ≠ 28 := by decide
  have h63 : hlo σ (wa v 28 R0 y) = hlo σ v := by unfold hlo; rw [wa_rne (by decide)]
  have h64 : A (wa v 28 R0 y) 64 σ = A v 64 σ := wa_rne (by decide)
  rw [h63, h64] at a7
  exact ⟨a1, fun r i hr h1 h2 => (a2 r i hr (by omega)).trans (wa_ne (by omega)), fun r i hr h2 => (a3 r i hr (by omega)).trans (wa_rne (n3 r hr)), fun r i hr h2 => (a4 r i hr (by omega)).trans (wa_rne (n4 r hr)), fun r i hr h2 => (a5 r i hr (by omega)).trans (wa_rne (n5 r hr)), fun i h2 => (a6 i (by omega)).trans (wa_rne (by decide)), a7, hc, z1, z2⟩
theorem SEQ_eqx {g q q2 m m2 lo mm XX Y sh : Nat} {a b : Nat → Nat} {R : Nat → Prop} (s : SEQ V SN g a b q q2 m m2 lo mm XX Y sh R) (e : EQX σ n0 V X) (ha : n0 ≤ a 0) (hb : ∀ i, b i ≤ mks V i) : SEQ X SN g a b q q2 m m2 lo mm XX Y sh R := by
  obtain ⟨a1, a2, a3, a4, a5, a6, -⟩ := e
  have m0 : mks V 0 = (F V 32).toNat := rfl
  have m1 : mks V 1 = (F V 46).toNat := rfl
  have m2 : mks V 2 = (F V 39).toNat := rfl
  have m3 : mks V 3 = (F V 56).toNat := rfl
  have m4 : mks V 4 = (F V 58).toNat := rfl
  have b0 := hb 0
  have b1 := hb 1
  have b2 := hb 2
  have b3 := hb 3
  have b4 := hb 4
  have n1 : ∀ r, r ∈ [23, 24, 25, 26, 27, 31] → r ∈ [23, 24, 25, 26, 27, 28, 29, 30, 31] := by decide
  have n2 : ∀ r, r ∈ [28, 29, 30] → r ∈ [23, 24, 25, 26, 27, 28, 29, 30, 31] := by decide
  exact SEQ_st s ⟨a1, fun r i hr h1 h2 => a2 r i (n1 r hr) (by omega) (by omega), fun r i hr _ h2 => a3 r i hr (by omega), fun r i hr h2 => a4 r i hr (by omega), fun r i hr _ h2 => a5 r i hr (by omega), fun i h2 => a6 i (by omega)⟩ (fun r i hr h1 h2 _ => a2 r i (n2 r hr) (by omega) (by omega))
theorem CHD_eqx {many m mm XX Y sh k : Nat} {μ : Nat → Nat → Nat} {r : Nat → Nat} {ret : Bool} {root : Int} (s : CHD V SN ret root k μ r many m mm XX Y sh) (e : EQX σ n0 V X) (ha : n0 ≤ μ 0 0) (hb : ∀ i, μ k i ≤ mks V i) : CHD X SN ret root k μ r many m mm XX Y sh := by
  obtain ⟨a1, a2, a3, a4, a5, a6, -⟩ := e
  have m0 : mks V 0 = (F V 32).toNat := rfl
  have m1 : mks V 1 = (F V 46).toNat := rfl
  have m2 : mks V 2 = (F V 39).toNat := rfl
  have m3 : mks V 3 = (F V 56).toNat := rfl
  have m4 : mks V 4 = (F V 58).toNat := rfl
  have le : ∀ j t, j ≤ k → μ 0 t ≤ μ j t ∧ μ j t ≤ mks V t := fun j t hj => by
    have q1 := CHD_le s j 0 (by omega) t
    have q2 := CHD_le s (k - j) j (by omega) t
    rw [Nat.zero_add] at q1
    rw [show j + (k - j) = k by omega] at q2
    exact ⟨q1, Nat.le_trans q2 (hb t)⟩
  refine ⟨fun j hj => ?_, fun j hj => ?_, fun y => ?_⟩
  · have b0 := le (j + 1) 0 (by omega)
    have b1 := le (j + 1) 1 (by omega)
    have b2 := le (j + 1) 2 (by omega)
    have b3 := le (j + 1) 3 (by omega)
    have b4 := le (j + 1) 4 (by omega)
    have c0 := le j 0 (by omega)
    exact PTD_ag (s.1 j hj) ⟨a1, fun r i hr h1 h2 _ => a2 r i hr (by omega) (by omega), fun r i hr _ h2 _ => a3 r i hr (by omega), fun r i hr h2 => a4 r i hr (by omega), fun r i hr _ h2 => a5 r i hr (by omega), fun i h2 => a6 i (by omega)⟩
  · have b1 := le (j + 1) 1 (by omega)
    have pl := (PTD_le (s.1 j (by omega))).2.2.1
    rw [a3 45 _ (by decide) (by omega)]
    exact s.2.1 j hj
  · have b1 := le k 1 (by omega)
    have pl := (PTD_le (s.1 (k - 1) (by omega))).2.2.1
    rw [show k - 1 + 1 = k by omega] at pl
    rw [a3 45 _ (by decide) (by omega)]
    exact s.2.2 y
theorem RLS_eqx {many m mm XX Y sh k : Nat} {μ : Nat → Nat → Nat} {r : Nat → Nat} {ret : Bool} {root : Int} (s : CHD V SN ret root k μ r many m mm XX Y sh) (l : RLS V k r) (e : EQX σ n0 V X) (ha : n0 ≤ μ 0 0) (hb : ∀ i, μ k i ≤ mks V i) : RLS X k r := fun j hj => by
  have m0 : mks V 0 = (F V 32).toNat := rfl
  have := CHD_r s hj
  have := hb 0
  rw [e.2.1 29 (r j) (by decide) (by omega) (by omega)]
  exact l j hj
end
