def scU (u : MS) (σ : Nat) : MS := wa (wa (wa (wi u 65 ((σ : Int) + 1)) 60 (σ + 1) 0) 63 (σ + 1) 0) 64 (σ + 1) 0
section
variable {u0 u v w x : MS} {σ TN : Nat} {bw : Nat → Nat} {p o n q c f h s wt g d y : Int}
theorem scU_A {r i : Nat} (h : (r ≠ 60 ∧ r ≠ 63 ∧ r ≠ 64) ∨ i ≠ σ + 1) : A (scU u σ) r i = A u r i := by
  unfold scU
  rcases h with h | h
  · rw [wa_rne h.2.2, wa_rne h.2.1, wa_rne h.1]; rfl
  · rw [wa_ne h, wa_ne h, wa_ne h]; rfl
theorem scU_F {k : Nat} (h : k ≠ 65) : F (scU u σ) k = F u k := by
  unfold scU; rw [F_wa, F_wa, F_wa]; exact wi_ne h
theorem scU_60 : A (scU u σ) 60 (σ + 1) = 0 := by
  unfold scU; rw [wa_rne (by decide), wa_rne (by decide)]; exact wa_eq ⟨by decide, by decide⟩
theorem scU_63 : A (scU u σ) 63 (σ + 1) = 0 := by
  unfold scU; rw [wa_rne (by decide)]; exact wa_eq ⟨by decide, by decide⟩
theorem scU_64 : A (scU u σ) 64 (σ + 1) = 0 := by
  unfold scU; exact wa_eq ⟨by decide, by decide⟩
theorem scU_FR : FR [65] [] [60, 63, 64] [] u (scU u σ) := by
  unfold scU
  exact FR.wa (FR.wa (FR.wa (FR.wi FR.rf (by decide)) (by decide)) (by decide)) (by decide)
theorem ST_up (hs : ST u0 σ p o n q c f h s wt g u) (hσ : σ ≤ 100) : ST u0 (σ + 1) p o n q c f h s wt g (scU u σ) := by
  obtain ⟨b1, e, b2, b6, b7, b8⟩ := hs
  have fr := scU_FR (u := u) (σ := σ)
  have F5 : F (scU u σ) 65 = ((σ + 1 : Nat) : Int) := by
    unfold scU; rw [F_wa, F_wa, F_wa, wi_eq ⟨by omega, by omega⟩]; omega
  have ef : ∀ k, k ≠ 65 → F (scU u σ) k = F u k := fun k hk => scU_F hk
  refine ⟨FR.tr b1 (FRP fr (by decide) (by decide) (by decide)), ?_, ?_, ?_, K44_fr b7 fr (by decide), NGD_fr b8 fr (by decide) (by decide)⟩
  · rw [F5, ef 69 (by decide), ef 70 (by decide), ef 32 (by decide), ef 39 (by decide), ef 46 (by decide), ef 56 (by decide), ef 58 (by decide), ef 75 (by decide), ef 77 (by decide), ef 83 (by decide), ef 73 (by decide)]
    obtain ⟨e1, e2, e3, e4, e5, e6, e7, e8, e9, e10, e11, -⟩ := e
    exact ⟨e1, e2, e3, e4, e5, e6, e7, e8, e9, e10, e11, rfl⟩
  · rw [ef 71 (by decide), ef 66 (by decide)]; exact b2
  · intro s hs
    by_cases z : s = σ + 1
    · subst z
      rw [scU_60, scU_63, scU_64]
      exact ⟨⟨by omega, by omega, by omega, by omega⟩, fun i hi => by omega, fun z => by omega, fun i hi => by omega⟩
    · have hs' : s ≤ σ := by omega
      obtain ⟨c1, c2, c3, c4⟩ := b6 s hs'
      rw [scU_A (Or.inr z), scU_A (Or.inr z), scU_A (Or.inr z)]
      refine ⟨c1, fun i hi => ?_, c3, fun i hi hs0 => ?_⟩
      · rw [scU_A (Or.inl (by decide))]
        obtain ⟨d1, d2, d3⟩ := c2 i hi
        refine ⟨d1, d2, fun j hj => ?_⟩
        rw [scU_A (Or.inl (by decide))]
        exact d3 j hj
      · rw [scU_A (Or.inl (by decide)), scU_A (Or.inr (by omega)), scU_A (Or.inr (by omega))]
        exact c4 i hi hs0
theorem ST_dn (hs : ST u0 (σ + 1) p o n q c f h s wt g u) (hσ : σ ≤ 100) : ST u0 σ p o n q c f h s wt g (wi u 65 σ) := by
  obtain ⟨b1, e, b2, b6, b7, b8⟩ := hs
  have fr : FR [65] [] [] [] u (wi u 65 σ) := FR.wi FR.rf (by decide)
  have F5 : F (wi u 65 σ) 65 = σ := wi_eq ⟨by omega, by omega⟩
  have ef : ∀ k, k ≠ 65 → F (wi u 65 σ) k = F u k := fun k hk => wi_ne hk
  refine ⟨FR.tr b1 (FRP fr (by decide) (by decide) (by decide)), ?_, ?_, fun s hs => b6 s (by omega), K44_fr b7 fr (by decide), NGD_fr b8 fr (by decide) (by decide)⟩
  · rw [F5, ef 69 (by decide), ef 70 (by decide), ef 32 (by decide), ef 39 (by decide), ef 46 (by decide), ef 56 (by decide), ef 58 (by decide), ef 75 (by decide), ef 77 (by decide), ef 83 (by decide), ef 73 (by decide)]
    obtain ⟨e1, e2, e3, e4, e5, e6, e7, e8, e9, e10, e11, -⟩ := e
    exact ⟨e1, e2, e3, e4, e5, e6, e7, e8, e9, e10, e11, rfl⟩
  · rw [ef 71 (by decide), ef 66 (by decide)]; exact b2
theorem KPR_up (hσ : σ ≤ 100) : KPR σ u (scU u σ) := by
  have ef : ∀ k, k ≠ 65 → F (scU u σ) k = F u k := fun k hk => scU_F hk
  have m1 : ∀ r, r ∈ [23, 24, 25, 26, 27, 28, 29, 30, 31] → r ≠ 60 ∧ r ≠ 63 ∧ r ≠ 64 := by decide
  have m2 : ∀ r, r ∈ [33, 35, 36, 37, 38] → r ≠ 60 ∧ r ≠ 63 ∧ r ≠ 64 := by decide
  have m3 : ∀ r, r ∈ [40, 41, 42, 43, 45] → r ≠ 60 ∧ r ≠ 63 ∧ r ≠ 64 := by decide
  have m4 : ∀ r, r ∈ [53, 54, 55] → r ≠ 60 ∧ r ≠ 63 ∧ r ≠ 64 := by decide
  have m5 : ∀ r, r ∈ [61, 62] → r ≠ 60 ∧ r ≠ 63 ∧ r ≠ 64 := by decide
  have m6 : ∀ r, r ∈ [79, 80, 81, 82] → r ≠ 60 ∧ r ≠ 63 ∧ r ≠ 64 := by decide
  refine ⟨FRP scU_FR (by decide) (by decide) (by decide), ⟨fun r i h1 _ => scU_A (Or.inl (m1 r h1)), fun r i h1 _ => scU_A (Or.inl (m2 r h1)), fun r i h1 _ => scU_A (Or.inl (m3 r h1)), fun r i h1 _ => scU_A (Or.inl (m4 r h1)), fun i _ => scU_A (Or.inl (by decide))⟩, ⟨fun s i _ _ => scU_A (Or.inl (by decide)), fun r s i h0 _ _ => scU_A (Or.inl (m5 r h0)), fun s h1 => scU_A (Or.inr (by omega)), fun s h1 => ?_⟩, ⟨fun i _ => scU_A (Or.inl (by decide)), fun i _ => scU_A (Or.inl (by decide)), fun r i h1 _ => scU_A (Or.inl (m6 r h1))⟩, ?_, ?_, ?_⟩
  · rw [scU_A (Or.inr (by omega)), scU_A (Or.inr (by omega)), scU_A (Or.inr (by omega))]; omega
  · rw [ef 32 (by decide), ef 39 (by decide), ef 46 (by decide), ef 56 (by decide), ef 58 (by decide), ef 75 (by decide), ef 77 (by decide), ef 83 (by decide)]; omega
  · rw [ef 72 (by decide)]; exact id
  · rw [ef 66 (by decide)]; exact id
theorem KPR_sdn (k : KPR (σ + 1) v w) : KPR σ v w ∧ A w 60 σ = A v 60 σ := by
  obtain ⟨a0, a1, ⟨a6, a7, a8, a9⟩, a10⟩ := k
  exact ⟨⟨a0, a1, ⟨fun s i h1 h2 => a6 s i (by omega) h2, fun r s i h0 h1 h2 => a7 r s i h0 (by omega) h2, fun s h1 => a8 s (by omega), fun s h1 => a9 s (by omega)⟩, a10⟩, a8 σ (by omega)⟩
theorem KPR_65 (k : KPR σ v w) : KPR σ v (wi w 65 y) := by
  obtain ⟨a0, a1, a2, a3, a13, a14, a15⟩ := k
  have ef : ∀ k, k ≠ 65 → F (wi w 65 y) k = F w k := fun k hk => wi_ne hk
  refine ⟨FR.wi a0 (by decide), a1, a2, a3, ?_, ?_, ?_⟩
  · rw [ef 32 (by decide), ef 39 (by decide), ef 46 (by decide), ef 56 (by decide), ef 58 (by decide), ef 75 (by decide), ef 77 (by decide), ef 83 (by decide)]; exact a13
  · rw [ef 72 (by decide)]; exact a14
  · rw [ef 66 (by decide)]; exact a15
theorem KPR_66 (k : KPR σ v w) : KPR σ v (wi w 66 1) := by
  obtain ⟨a0, a1, a2, a3, a13, a14, a15⟩ := k
  have ef : ∀ k, k ≠ 66 → F (wi w 66 1) k = F w k := fun k hk => wi_ne hk
  have e1 : F (wi w 66 1) 66 = 1 := wi_eq ⟨by decide, by decide⟩
  refine ⟨FR.wi a0 (by decide), a1, a2, a3, ?_, ?_, ?_⟩
  · rw [ef 32 (by decide), ef 39 (by decide), ef 46 (by decide), ef 56 (by decide), ef 58 (by decide), ef 75 (by decide), ef 77 (by decide), ef 83 (by decide)]; exact a13
  · rw [ef 72 (by decide)]; exact a14
  · rw [e1]; intro z; omega
theorem ST_66 (hs : ST u0 σ p o n q c f h s wt g u) : ST u0 σ p o n q c f h s wt g (wi u 66 1) :=
  ST_sc hs (FR.wi FR.rf (by decide)) (fun s hs' => hs.2.2.2.1 s hs') (Or.inr (wi_eq ⟨by decide, by decide⟩))
theorem ST_hl {i : Nat} {h' : Int} (hs : ST u0 σ p o n q c f h s wt g u) (a : HLP σ u v i) (hh : h' = h + i) : ST u0 σ p o n q c f h' s wt g v := by
  obtain ⟨fr, b2, -⟩ := a
  obtain ⟨b1, e, b3, b6, b7, b8⟩ := hs
  have ef : ∀ k, k ≠ 58 → F v k = F u k := fun k hk => fr.F (by simpa using hk)
  refine ⟨FR.tr b1 (FRP fr (by decide) (by decide) (by decide)), ?_, ?_, SCP_fr b6 fr (by decide), K44_fr b7 fr (by decide), NGD_fr b8 fr (by decide) (by decide)⟩
  · rw [ef 65 (by decide), ef 69 (by decide), ef 70 (by decide), ef 32 (by decide), ef 39 (by decide), ef 46 (by decide), ef 56 (by decide), ef 75 (by decide), ef 77 (by decide), ef 83 (by decide), ef 73 (by decide), b2]
    obtain ⟨e1, e2, e3, e4, e5, e6, e7, e8, e9, e10, e11, e12⟩ := e
    exact ⟨e1, e2, e3, e4, e5, e6, by omega, e8, e9, e10, e11, e12⟩
  · rw [ef 71 (by decide), ef 66 (by decide)]; exact b3
theorem KPR_hl {σ1 i : Nat} (k : KPR σ w u) (a : HLP σ1 u v i) : KPR σ w v := by
  obtain ⟨fr, b2, b3, b4⟩ := a
  have ef : ∀ k, k ≠ 58 → F v k = F u k := fun k hk => fr.F (by simpa using hk)
  have g : ∀ r i, r ≠ 57 → A v r i = A u r i := fun r i hr => fr.A (by simpa using hr)
  obtain ⟨a0, ⟨a1, a2, a3, a4, a5⟩, ⟨a6, a7, a8, a9⟩, ⟨a10, a11, a12⟩, a13, a14, a15⟩ := k
  have m1 : ∀ r, r ∈ [23, 24, 25, 26, 27, 28, 29, 30, 31] → r ≠ 57 := by decide
  have m2 : ∀ r, r ∈ [33, 35, 36, 37, 38] → r ≠ 57 := by decide
  have m3 : ∀ r, r ∈ [40, 41, 42, 43, 45] → r ≠ 57 := by decide
  have m4 : ∀ r, r ∈ [53, 54, 55] → r ≠ 57 := by decide
  have m5 : ∀ r, r ∈ [61, 62] → r ≠ 57 := by decide
  have m6 : ∀ r, r ∈ [79, 80, 81, 82] → r ≠ 57 := by decide
  refine ⟨FR.tr a0 (FRP fr (by decide) (by decide) (by decide)), ⟨fun r i h1 h2 => (g r i (m1 r h1)).trans (a1 r i h1 h2), fun r i h1 h2 => (g r i (m2 r h1)).trans (a2 r i h1 h2), fun r i h1 h2 => (g r i (m3 r h1)).trans (a3 r i h1 h2), fun r i h1 h2 => (g r i (m4 r h1)).trans (a4 r i h1 h2), fun i h2 => (b4 i (by omega)).trans (a5 i h2)⟩, ⟨fun s i h1 h2 => (g 59 _ (by decide)).trans (a6 s i h1 h2), fun r s i h0 h1 h2 => (g r _ (m5 r h0)).trans (a7 r s i h0 h1 h2), fun s h1 => (g 60 s (by decide)).trans (a8 s h1), fun s h1 => ?_⟩, ⟨fun i h2 => (g 74 i (by decide)).trans (a10 i h2), fun i h2 => (g 76 i (by decide)).trans (a11 i h2), fun r i h1 h2 => (g r i (m6 r h1)).trans (a12 r i h1 h2)⟩, ?_, ?_, ?_⟩
  · rw [g 60 s (by decide), g 63 s (by decide), g 64 s (by decide)]; exact a9 s h1
  · rw [ef 32 (by decide), ef 39 (by decide), ef 46 (by decide), ef 56 (by decide), ef 75 (by decide), ef 77 (by decide), ef 83 (by decide), b2]; omega
  · rw [ef 72 (by decide)]; exact a14
  · rw [ef 66 (by decide)]; exact a15
theorem FSM_dn {i : Nat} (hs : FSM u0 TN (σ + 1) d u) (a : HLP (σ + 1) u v i) (hi : i ≤ 60) (hσ : σ ≤ 100) : FSM u0 TN σ d (wi v 65 σ) := by
  obtain ⟨fr, b2, -⟩ := a
  obtain ⟨c1, c2, c3, c4, c5, c6, c7, c8⟩ := hs
  have ef : ∀ k, k ≠ 58 → k ≠ 65 → F (wi v 65 σ) k = F u k := fun k hk hk2 => (wi_ne hk2).trans (fr.F (by simpa using hk))
  have e58 : F (wi v 65 σ) 58 = F u 58 + i := (wi_ne (by decide)).trans b2
  have g : ∀ r i, r ≠ 57 → A (wi v 65 σ) r i = A u r i := fun r i hr => fr.A (by simpa using hr)
  refine ⟨FR.wi (FR.tr c1 (FRP fr (by decide) (by decide) (by decide))) (by decide), by rw [ef 67 (by decide) (by decide)]; exact c2, by rw [ef 69 (by decide) (by decide), ef 71 (by decide) (by decide)]; exact c3, wi_eq ⟨by omega, by omega⟩, by rw [ef 32 (by decide) (by decide)]; exact c5, by rw [e58]; omega, fun s hs => ?_, fun i => ?_⟩
  · rw [g 63 s (by decide)]; exact c7 s (by omega)
  · rw [g 44 i (by decide)]; exact c8 i
end
