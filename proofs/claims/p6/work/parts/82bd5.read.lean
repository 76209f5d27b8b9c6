set_option maxRecDepth 100000
section
variable {u v w : MS} {N g b q c n p cc : Nat} {ps : Nat → Nat}
def FvW (w : MS) (a b : Int64) : Prop := (∃ pl : Nat, ((pl : Nat) : Int) < F w 449 ∧ a = mk 8 ((pl : Nat) : Int) ∧ b = mk 8 (A w 23 (A w 32 pl).toNat)) ∨ ∃ f : Nat, ((f : Nat) : Int) < F w 442 ∧ a = mk 8 (1000000 + ((f : Nat) : Int)) ∧ b = mk 8 0
theorem FvW_ok (h4 : F w 449 ≤ 400) (h2 : F w 442 ≤ 666) : FVc (FvW w) := by
  refine ⟨fun a b h => ?_, fun a b a2 b2 h h2' e => ?_⟩
  · rcases h with ⟨pl, -, rfl, rfl⟩ | ⟨f, -, rfl, rfl⟩
    · exact ⟨so_mk (by decide) (by decide), so_mk (by decide) (by decide)⟩
    · exact ⟨so_mk (by decide) (by decide), so_mk (by decide) (by decide)⟩
  · rcases h with ⟨pl, hp, rfl, rfl⟩ | ⟨f, hf, rfl, rfl⟩
    · rcases h2' with ⟨pl2, hp2, rfl, rfl⟩ | ⟨f2, hf2, rfl, rfl⟩
      · rw [va_mk (by omega) (by omega), va_mk (by omega) (by omega)] at e
        have : pl = pl2 := by omega
        rw [this]
      · rw [va_mk (by omega) (by omega), va_mk (by omega) (by omega)] at e
        omega
    · rcases h2' with ⟨pl2, hp2, rfl, rfl⟩ | ⟨f2, hf2, rfl, rfl⟩
      · rw [va_mk (by omega) (by omega), va_mk (by omega) (by omega)] at e
        omega
      · rfl
theorem types_of (h : ALP w g b q) (hb : b ≤ 24000) (h42 : F w 442 = ((g : Nat) : Int)) (hg : g ≤ 666) (h49 : F w 449 = ((q : Nat) : Int)) (hq : q ≤ 400) : ∃ T, WFT T w ∧ CDT T w (FvW w) := by
  obtain ⟨T0, ty, en⟩ := h
  refine ⟨fun i => if 1 ≤ i ∧ i < b then T0 i else none, ?_⟩
  have hT : ∀ i, 1 ≤ i → i < b → (fun i => if 1 ≤ i ∧ i < b then T0 i else none) i = T0 i := fun i h1 h2 => by
    show (if 1 ≤ i ∧ i < b then T0 i else none) = _
    rw [if_pos ⟨h1, h2⟩]
  obtain ⟨r1, r2⟩ := ty w _ (fun _ _ _ => rfl) TBLc.rf hT hb
  refine ⟨fun i h m L g x e => ?_, ⟨by omega, by omega⟩, fun f hf => ?_, ⟨by omega, by omega⟩, fun pl hp => ?_, fun f hf => Or.inr ⟨f, hf, rfl, rfl⟩, fun a b h => ?_⟩
  · by_cases hi : 1 ≤ i ∧ i < b
    · exact r1 i h m L g x hi.1 hi.2 e
    · have e2 : (if 1 ≤ i ∧ i < b then T0 i else none) = some (h, m, L, g, x) := e
      rw [if_neg hi] at e2
      cases e2
  · obtain ⟨a, e, e1, e2, e3, e4⟩ := en f (by omega)
    exact ⟨a, e, e1, e2, (hT e e3.1 e3.2).trans e4⟩
  · obtain ⟨a, e, p, k, z1, z2, z3, z4, z5, z6⟩ := r2 pl (by omega) (by omega)
    refine ⟨a, e, p, k, z1, z2, z3, z4, z5, z6, Or.inl ⟨pl, hp, rfl, ?_⟩⟩
    rw [z3, Int.toNat_natCast, z4]
  · rcases h with ⟨pl, hp, rfl, rfl⟩ | ⟨f, hf, rfl, rfl⟩
    · have := A_r w 23 (A w 32 pl).toNat
      exact Or.inl ⟨pl, va_mk (by omega) (by omega), hp, va_mk this.1 this.2⟩
    · exact Or.inr ⟨f, va_mk (by omega) (by omega), hf, va_mk (by decide) (by decide)⟩
theorem CTX_of (hF : FVc (FvW v)) (h1 : WDc w 1) (h2 : 22 ≤ F w 22) : CTX (FvW v) (PT w) w := by
  have r22 := FRG1 w 22
  refine ⟨hF, fun t h => h, h1, h2, fun x hx => ⟨?_, ?_, ?_⟩, fun a h0 ha => ?_, ?_⟩
  · exact ⟨by rw [so_mk (by decide) (by decide)]; omega, fun z => by rw [so_mk (by decide) (by decide)] at z; omega⟩
  · exact ⟨by rw [so_mk (by decide) (by decide)]; omega, fun z => by rw [so_mk (by decide) (by decide)] at z; omega⟩
  · exact ⟨by rw [so_mk (by decide) (by decide)]; omega, fun z => by rw [so_mk (by decide) (by decide)] at z; omega⟩
  · have := r22.2
    exact ⟨by rw [so_mk (by decide) (by decide)]; omega, fun _ => by rw [va_mk (by omega) (by omega)]; exact ⟨h0, ha⟩⟩
  · exact ⟨by rw [so_mk (by decide) (by decide)]; omega, fun z => by rw [so_mk (by decide) (by decide)] at z; omega⟩
def NOP (u : MS) : Prop := GLQ 0 u
theorem clearAll_new : OK (fun w _ => NOP w ∧ FC 0 [942, 943, 944, 945, 946, 950, 953, 955, 956] [] [] [] [] [] [] u w) (hm_Wl_clearAll N u) := by
  unfold hm_Wl_clearAll hb_Wl_clearAll_0
  simp only [lt_e]
  rw [lit0q]
  simp only [wi_e]
  generalize hw : wi (wi (wi (wi (wi (wi (wi (wi (wi u 942 0) 943 0) 944 0) 945 0) 946 0) 950 0) 953 0) 955 0) 956 0 = w
  have f : FC 0 [942, 943, 944, 945, 946, 950, 953, 955, 956] [] [] [] [] [] [] u w := by
    rw [← hw]
    exact FC.wi_g (FC.wi_g (FC.wi_g (FC.wi_g (FC.wi_g (FC.wi_g (FC.wi_g (FC.wi_g (FC.wi_g FC.rf (by omega) (by simp)) (by omega) (by simp)) (by omega) (by simp)) (by omega) (by simp)) (by omega) (by simp)) (by omega) (by simp)) (by omega) (by simp)) (by omega) (by simp)) (by omega) (by simp)
  have v : F w 942 = 0 ∧ F w 950 = 0 ∧ F w 953 = 0 ∧ F w 955 = 0 ∧ F w 956 = 0 := by
    rw [← hw]
    simp [F_wi (show -2147483648 ≤ (0 : Int) by decide) (show (0 : Int) < 2147483648 by decide)]
  obtain ⟨v1, v2, v3, v4, v5⟩ := v
  exact ok_some.mpr ⟨⟨⟨v1, by omega⟩, fun r hr => absurd hr (by omega), by omega, ⟨by rw [v4]; rfl, by omega⟩, fun i hi => absurd hi (by omega), by omega, fun i hi => absurd hi (by omega)⟩, f⟩
theorem WRD_0 {T : Nat → Option (Nat × Nat × List Nat × Nat × Nat)} {Fv : Int64 → Int64 → Prop} {P : Int64 → Prop} (n : NOP w) (c : CTX Fv P w) (t : WFT T w) (d : CDT T w Fv) (a : ALN w) : WRD T Fv P 0 w := ⟨⟨n, fun r hr => absurd hr (by omega)⟩, c, t, d, fun r hr => absurd hr (by omega), a⟩
end
