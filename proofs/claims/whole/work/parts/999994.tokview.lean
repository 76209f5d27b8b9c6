/-! the tokens as the reference sees them, by the class's kinds -/
set_option maxRecDepth 100000
def srt (k : Nat) : Int32 := if k = 0 then 0 else if k = 1 then 4 else if k = 2 then 1 else if k = 3 then 2 else if k = 4 then 5 else if k < 20 then 3 else if k < 45 then 6 else 7
def vlk (k : Nat) : Int32 := if k < 20 then Int32.ofNat (k - 5) else sgV (k - 20)
structure TV (w : MS) (K : Nat → Nat) (T : Nat) : Prop where
  t4 : T ≤ 4000
  lo : ∀ p, p < T → 1 ≤ K p ∧ K p ≤ 44
  en : K T = 0 ∨ K T = 45
  so : ∀ p, p ≤ T → w.2.2.1 6 p = srt (K p)
  va : ∀ p, p < T → 5 ≤ K p → w.2.2.1 7 p = vlk (K p)
theorem srt_sg : ∀ k, k < 46 → (srt k = 6 ↔ 20 ≤ k ∧ k ≤ 44) ∧ (srt k = 3 ↔ 5 ≤ k ∧ k ≤ 19) ∧ (srt k = 1 ↔ k = 2) ∧ (srt k = 2 ↔ k = 3) ∧ (srt k = 4 ↔ k = 1) ∧ (srt k = 5 ↔ k = 4) ∧ (srt k = 0 ↔ k = 0) ∧ (srt k = 7 ↔ k = 45) := by decide +kernel
theorem vlk_sg : ∀ m, m < 25 → ∀ k, k < 45 → 20 ≤ k → (vlk k = sgV m ↔ k = 20 + m) := by decide +kernel
theorem vlk_wd : ∀ m, m < 15 → ∀ k, k < 20 → 5 ≤ k → (vlk k = Int32.ofNat m ↔ k = 5 + m) := by decide +kernel
section TVS
variable {w : MS} {K : Nat → Nat} {T p : Nat}
theorem TV.k46 (h : TV w K T) (hp : p ≤ T) : K p < 46 := by
  by_cases e : p = T
  · rw [e]
    rcases h.en with z | z <;> rw [z] <;> decide
  · have := h.lo p (by omega)
    omega
theorem TV.lt (h : TV w K T) (hp : p ≤ T) (h1 : 1 ≤ K p) (h2 : K p ≤ 44) : p < T := by
  by_cases e : p = T
  · rw [e] at h1 h2
    rcases h.en with z | z <;> omega
  · omega
theorem TV.sg (h : TV w K T) (hp : p ≤ T) {m : Nat} (hm : m < 25) : isS w p (sgV m) = decide (K p = 20 + m) := by
  have k46 := h.k46 hp
  have s := (srt_sg (K p) k46).1
  unfold isS
  rw [h.so p hp]
  by_cases e : K p = 20 + m
  · have hl := h.lt hp (by omega) (by omega)
    rw [decide_eq_true e, decide_eq_true (s.mpr (by omega)), decide_eq_true]
    · rfl
    · rw [h.va p hl (by omega)]
      exact (vlk_sg m hm (K p) (by omega) (by omega)).mpr e
  · rw [decide_eq_false e]
    by_cases e6 : srt (K p) = 6
    · have hk := s.mp e6
      have hl := h.lt hp (by omega) (by omega)
      rw [decide_eq_true e6, decide_eq_false]
      · rfl
      · rw [h.va p hl (by omega)]
        exact fun z => e ((vlk_sg m hm (K p) (by omega) (by omega)).mp z)
    · rw [decide_eq_false e6]; rfl
theorem TV.wd (h : TV w K T) (hp : p ≤ T) {m : Nat} (hm : m < 15) : isV w p (Int32.ofNat m) = decide (K p = 5 + m) := by
  have k46 := h.k46 hp
  have s := (srt_sg (K p) k46).2.1
  unfold isV
  rw [h.so p hp]
  by_cases e : K p = 5 + m
  · have hl := h.lt hp (by omega) (by omega)
    rw [decide_eq_true e, decide_eq_true (s.mpr (by omega)), decide_eq_true]
    · rfl
    · rw [h.va p hl (by omega)]
      exact (vlk_wd m hm (K p) (by omega) (by omega)).mpr e
  · rw [decide_eq_false e]
    by_cases e3 : srt (K p) = 3
    · have hk := s.mp e3
      have hl := h.lt hp (by omega) (by omega)
      rw [decide_eq_true e3, decide_eq_false]
      · rfl
      · rw [h.va p hl (by omega)]
        exact fun z => e ((vlk_wd m hm (K p) (by omega) (by omega)).mp z)
    · rw [decide_eq_false e3]; rfl
theorem TV.so1 (h : TV w K T) (hp : p ≤ T) : decide (w.2.2.1 6 p = 1) = decide (K p = 2) := by rw [h.so p hp]; exact decide_eq_decide.mpr (srt_sg (K p) (h.k46 hp)).2.2.1
theorem TV.so2 (h : TV w K T) (hp : p ≤ T) : decide (w.2.2.1 6 p = 2) = decide (K p = 3) := by rw [h.so p hp]; exact decide_eq_decide.mpr (srt_sg (K p) (h.k46 hp)).2.2.2.1
theorem TV.so4 (h : TV w K T) (hp : p ≤ T) : decide (w.2.2.1 6 p = 4) = decide (K p = 1) := by rw [h.so p hp]; exact decide_eq_decide.mpr (srt_sg (K p) (h.k46 hp)).2.2.2.2.1
theorem TV.so5 (h : TV w K T) (hp : p ≤ T) : decide (w.2.2.1 6 p = 5) = decide (K p = 4) := by rw [h.so p hp]; exact decide_eq_decide.mpr (srt_sg (K p) (h.k46 hp)).2.2.2.2.2.1
theorem TV.so0 (h : TV w K T) (hp : p ≤ T) : decide (w.2.2.1 6 p = 0) = decide (K p = 0) := by rw [h.so p hp]; exact decide_eq_decide.mpr (srt_sg (K p) (h.k46 hp)).2.2.2.2.2.2.1
theorem TV.so7 (h : TV w K T) (hp : p ≤ T) : (w.2.2.1 6 p = 7) ↔ K p = 45 := by rw [h.so p hp]; exact (srt_sg (K p) (h.k46 hp)).2.2.2.2.2.2.2
theorem TV.so3 (h : TV w K T) (hp : p ≤ T) : (w.2.2.1 6 p = 3) ↔ (5 ≤ K p ∧ K p ≤ 19) := by rw [h.so p hp]; exact (srt_sg (K p) (h.k46 hp)).2.1
theorem TV.so6 (h : TV w K T) (hp : p ≤ T) : (w.2.2.1 6 p = 6) ↔ (20 ≤ K p ∧ K p ≤ 44) := by rw [h.so p hp]; exact (srt_sg (K p) (h.k46 hp)).1
/-- only the rows of tokens count -/
theorem TV.fr {w2 : MS} (h : TV w K T) (h6 : w2.2.2.1 6 = w.2.2.1 6) (h7 : w2.2.2.1 7 = w.2.2.1 7) : TV w2 K T := ⟨h.t4, h.lo, h.en, fun p hp => by rw [h6]; exact h.so p hp, fun p hp hk => by rw [h7]; exact h.va p hp hk⟩
end TVS
/-- the signs that the parser asks for, by their kinds -/
theorem sv_k : sgV 0 = 0 ∧ sgV 1 = 1 ∧ sgV 2 = 2 ∧ sgV 3 = 3 ∧ sgV 4 = 4 ∧ sgV 5 = 5 ∧ sgV 6 = 6 ∧ sgV 7 = 7 ∧ sgV 8 = 8 ∧ sgV 9 = 9 ∧ sgV 10 = 11 ∧ sgV 14 = 19 ∧ sgV 16 = 21 ∧ sgV 17 = 24 ∧ sgV 18 = 10 := by decide +kernel
/-- tokens that both have read, as both see them -/
theorem TV_of {u : CS} {w : MS} {n : TN} {bad : Bool} (h : TOKS u w n bad) : TV w (fun p => (AI u 6 p).toNatClampNeg) n.i ∧ ∀ p, p ≤ n.i → AI u 6 p = Int32.ofNat ((AI u 6 p).toNatClampNeg) := by
  have hk := h.k4
  have hik := h.ik
  have one : ∀ p, p < n.i → ∃ k, 1 ≤ k ∧ k ≤ 44 ∧ AI u 6 p = Int32.ofNat k ∧ w.2.2.1 6 p = srt k ∧ (5 ≤ k → w.2.2.1 7 p = vlk k) := fun p hp => by
    rcases (h.tk p hp).1 with ⟨a, b, c⟩ | ⟨a, b, -⟩ | ⟨a, b, -⟩ | ⟨a, b, -⟩ | ⟨a, r, hr, b, c⟩ | ⟨a, m, hm, b, c⟩
    · exact ⟨1, by decide, by decide, a, b, fun z => by omega⟩
    · exact ⟨2, by decide, by decide, a, b, fun z => by omega⟩
    · exact ⟨3, by decide, by decide, a, b, fun z => by omega⟩
    · exact ⟨4, by decide, by decide, a, b, fun z => by omega⟩
    · refine ⟨5 + r, by omega, by omega, b, ?_, fun _ => ?_⟩
      · rw [a]; exact ((srt_sg (5 + r) (by omega)).2.1.mpr (by omega)).symm
      · rw [c]; exact ((vlk_wd r hr (5 + r) (by omega) (by omega)).mpr rfl).symm
    · refine ⟨20 + m, by omega, by omega, b, ?_, fun _ => ?_⟩
      · rw [a]; exact ((srt_sg (20 + m) (by omega)).1.mpr (by omega)).symm
      · rw [c]; exact ((vlk_sg m hm (20 + m) (by omega) (by omega)).mpr rfl).symm
  have kn : ∀ p k, k ≤ 45 → AI u 6 p = Int32.ofNat k → (AI u 6 p).toNatClampNeg = k := fun p k hk e => by rw [e]; exact q_nat (by omega)
  have ke : ∀ b : Bool, (AI u 6 n.i = if b = true then 45 else 0) → ((AI u 6 n.i).toNatClampNeg = if b = true then 45 else 0) := fun b e => by
    cases b
    · exact kn n.i 0 (by decide) e
    · exact kn n.i 45 (by decide) e
  refine ⟨⟨by omega, fun p hp => ?_, ?_, fun p hp => ?_, fun p hp h5 => ?_⟩, fun p hp => ?_⟩
  · obtain ⟨k, k1, k2, k3, -⟩ := one p hp
    show 1 ≤ (AI u 6 p).toNatClampNeg ∧ (AI u 6 p).toNatClampNeg ≤ 44
    rw [kn p k (by omega) k3]; exact ⟨k1, k2⟩
  · show (AI u 6 n.i).toNatClampNeg = 0 ∨ (AI u 6 n.i).toNatClampNeg = 45
    rw [ke bad h.e6]
    cases bad
    · exact Or.inl rfl
    · exact Or.inr rfl
  · show _ = srt (AI u 6 p).toNatClampNeg
    by_cases e : p = n.i
    · rw [e, ke bad h.e6, h.m6]
      cases bad <;> rfl
    · obtain ⟨k, k1, k2, k3, k4, -⟩ := one p (by omega)
      rw [kn p k (by omega) k3]; exact k4
  · obtain ⟨k, k1, k2, k3, k4, k5⟩ := one p hp
    have h5 : 5 ≤ (AI u 6 p).toNatClampNeg := h5
    show _ = vlk (AI u 6 p).toNatClampNeg
    rw [kn p k (by omega) k3] at h5 ⊢
    exact k5 h5
  · by_cases e : p = n.i
    · rw [e, ke bad h.e6, h.e6]
      cases bad <;> rfl
    · obtain ⟨k, k1, k2, k3, -⟩ := one p (by omega)
      rw [kn p k (by omega) k3]; exact k3
