def GTP (Fv : Int64 → Int64 → Prop) (P : Int64 → Prop) (w : MS) (o : Nat) (t : Int64) : Prop := ∃ n ow kd, A w 89 o = ((n : Nat) : Int) ∧ n ≤ 500 ∧ HP (hp w o) n ow kd Fv P ∧ GT n ow kd P t
def TE (Fv : Int64 → Int64 → Prop) (P : Int64 → Prop) (w : MS) (PR o : Nat) (t : Int64) : Prop := (¬ isH t ∧ P t) ∨ (isH t ∧ (o = 24 ∨ (o < PR ∧ A w 109 o = 3)) ∧ GTP Fv P w o t)
def cE (w : MS) : Nat → Nat
  | 0 => 0
  | k + 1 => cE w k + (if A w 109 k = 3 then 1 else 0)
def EQ (Fv : Int64 → Int64 → Prop) (P : Int64 → Prop) (w : MS) (PR : Nat) : Prop := ∃ eF eM : Nat, F w 149 = eF ∧ F w 150 = eM ∧ eF ≤ eM ∧ eM ≤ cE w PR ∧ ∀ i, eF ≤ i → i < eM → (0 ≤ A w 145 i ∧ A w 145 i < PR) ∧ (0 ≤ A w 146 i ∧ A w 146 i ≤ 2) ∧ (0 ≤ A w 147 i ∧ A w 147 i ≤ 24) ∧ TE Fv P w PR (A w 147 i).toNat (w.2.2.2 148 i)
def PRC (Fv : Int64 → Int64 → Prop) (P : Int64 → Prop) (w : MS) (p : Nat) : Prop := ∃ n ow kd opM bnM bxM, A w 89 p = ((n : Nat) : Int) ∧ CX w p (hp w p) n ow kd Fv P opM bnM bxM
def DW (Fv : Int64 → Int64 → Prop) (P : Int64 → Prop) (PR : Nat) (w : MS) : Prop :=
  (F w 118 = PR ∧ PR ≤ 24) ∧ (∀ p, p < PR → PRC Fv P w p) ∧ (∃ n ow kd, A w 89 24 = ((n : Nat) : Int) ∧ n ≤ 500 ∧ HP (hp w 24) n ow kd Fv P) ∧ F w 140 = -1 ∧ EQ Fv P w PR ∧ (∀ p, p < PR → A w 109 p = 0 ∨ A w 109 p = 1 ∨ A w 109 p = 3 ∨ A w 109 p = 5)
theorem cE_le (w : MS) : ∀ k, cE w k ≤ k
  | 0 => Nat.le_refl _
  | k + 1 => by
    show cE w k + _ ≤ k + 1
    have := cE_le w k
    split <;> omega
theorem cE_eq {w w2 : MS} : ∀ k, (∀ p, p < k → A w2 109 p = A w 109 p) → cE w2 k = cE w k
  | 0, _ => rfl
  | k + 1, h => by
    show cE w2 k + _ = cE w k + _
    rw [cE_eq k (fun p hp => h p (by omega)), h k (by omega)]
theorem cE_up {w w2 : MS} {q : Nat} (hq : A w 109 q ≠ 3) (h1 : A w2 109 q = 3) (h2 : ∀ p, p ≠ q → A w2 109 p = A w 109 p) : ∀ k, q < k → cE w2 k = cE w k + 1
  | 0, h => absurd h (Nat.not_lt_zero _)
  | k + 1, h => by
    show cE w2 k + (if A w2 109 k = 3 then 1 else 0) = cE w k + (if A w 109 k = 3 then 1 else 0) + 1
    by_cases e : k = q
    · subst e
      rw [if_pos h1, if_neg hq, cE_eq k (fun p hp => h2 p (by omega))]
    · rw [cE_up hq h1 h2 k (by omega), h2 k e]; omega
section
variable {Fv : Int64 → Int64 → Prop} {P : Int64 → Prop} {w w2 : MS} {PR N : Nat}
theorem GTP_same {o : Nat} {t : Int64} (g : GTP Fv P w o t) (h1 : A w2 89 o = A w 89 o) (h2 : hp w2 o = hp w o) : GTP Fv P w2 o t := by
  obtain ⟨n, ow, kd, a, b, c, d⟩ := g
  exact ⟨n, ow, kd, by rw [h1]; exact a, b, by rw [h2]; exact c, d⟩
theorem PRC_same {p : Nat} (g : PRC Fv P w p) (h1 : A w2 89 p = A w 89 p) (h2 : hp w2 p = hp w p) (h3 : A w2 92 p = A w 92 p) (h4 : A w2 94 p = A w 94 p) (h5 : A w2 108 p = A w 108 p) (r1 : ∀ i, i < 46000 → w2.2.2.2 91 (46000 * p + i) = w.2.2.2 91 (46000 * p + i)) (r2 : ∀ i, i < 2500 → w2.2.2.2 93 (2500 * p + i) = w.2.2.2 93 (2500 * p + i)) (r3 : ∀ i, i < 30 → w2.2.2.2 107 (30 * p + i) = w.2.2.2 107 (30 * p + i)) (hh : F w2 140 ≠ p) : PRC Fv P w2 p := by
  obtain ⟨n, ow, kd, opM, bnM, bxM, a, x1, x2, x3, x4, x5, x6, x7, x8, x9, x10, x11⟩ := g
  exact ⟨n, ow, kd, opM, bnM, bxM, by rw [h1]; exact a, rfl, by rw [h2]; exact x2, x3, x4, by rw [h3]; exact x5, by rw [h4]; exact x6, by rw [h5]; exact x7, fun i hi => by rw [r1 i (by omega)]; exact x8 i hi, fun i hi => by rw [r2 i (by omega)]; exact x9 i hi, fun i hi => by rw [r3 i (by omega)]; exact x10 i hi, fun z => absurd z hh⟩
theorem DW_q {q : Nat} (d : DW Fv P PR w) (hq : q < PR) (hal : A w 109 q ≠ 3) (nq : PRC Fv P w2 q) (f : FR [136, 138, 140] [139] [89, 90, 92, 94, 108, 135, 142] [88, 91, 93, 107, 134, 137, 141] w w2) (f140 : F w2 140 = -1)
    (h89 : ∀ p, p ≠ q → A w2 89 p = A w 89 p) (h92 : ∀ p, p ≠ q → A w2 92 p = A w 92 p) (h94 : ∀ p, p ≠ q → A w2 94 p = A w 94 p) (h108 : ∀ p, p ≠ q → A w2 108 p = A w 108 p)
    (h88 : ∀ i, ¬ (500 * q ≤ i ∧ i < 500 * q + 500) → w2.2.2.2 88 i = w.2.2.2 88 i) (h91 : ∀ i, ¬ (46000 * q ≤ i ∧ i < 46000 * q + 46000) → w2.2.2.2 91 i = w.2.2.2 91 i) (h93 : ∀ i, ¬ (2500 * q ≤ i ∧ i < 2500 * q + 2500) → w2.2.2.2 93 i = w.2.2.2 93 i) (h107 : ∀ i, ¬ (30 * q ≤ i ∧ i < 30 * q + 30) → w2.2.2.2 107 i = w.2.2.2 107 i) : DW Fv P PR w2 := by
  obtain ⟨⟨d1, d1'⟩, d2, ⟨n4, ow4, kd4, d3a, d3b, d3c⟩, d4, d5, d6⟩ := d
  have n24 : q ≠ 24 := by omega
  have hpe : ∀ p, p ≠ q → A w2 89 p = A w 89 p → ∀ n, n ≤ 500 → True := fun _ _ _ _ _ => trivial
  have cell : ∀ p i, p ≠ q → i < 500 → hp w2 p i = hp w p i := fun p i hp1 hi => by
    unfold hp
    exact h88 _ (by omega)
  have hpHP : ∀ p, p ≠ q → ∀ n ow kd, n ≤ 500 → HP (hp w p) n ow kd Fv P → HP (hp w2 p) n ow kd Fv P := fun p hp1 n ow kd hn g =>
    HP_own g (Nat.le_refl _) (fun i hi _ => cell p i hp1 (by omega)) (fun _ _ _ => rfl) (fun _ _ _ => rfl) (fun i hi e => ⟨hi, e⟩)
  have gtp : ∀ o t, o ≠ q → GTP Fv P w o t → GTP Fv P w2 o t := fun o t ho ⟨n, ow, kd, a, b, c, e⟩ => ⟨n, ow, kd, by rw [h89 o ho]; exact a, b, hpHP o ho n ow kd b c, e⟩
  refine ⟨⟨by rw [FR.F f (by decide)]; exact d1, d1'⟩, fun p hp1 => ?_, ⟨n4, ow4, kd4, by rw [h89 24 (Ne.symm n24)]; exact d3a, d3b, hpHP 24 (Ne.symm n24) _ _ _ d3b d3c⟩, f140, ?_, fun p hp1 => by rw [FR.A f (by decide)]; exact d6 p hp1⟩
  · by_cases e : p = q
    · rw [e]; exact nq
    · obtain ⟨n, ow, kd, opM, bnM, bxM, a, x1, x2, x3, x4, x5, x6, x7, x8, x9, x10, x11⟩ := d2 p hp1
      exact ⟨n, ow, kd, opM, bnM, bxM, by rw [h89 p e]; exact a, rfl, hpHP p e _ _ _ x3 x2, x3, x4, by rw [h92 p e]; exact x5, by rw [h94 p e]; exact x6, by rw [h108 p e]; exact x7, fun i hi => by rw [h91 _ (by omega)]; exact x8 i hi, fun i hi => by rw [h93 _ (by omega)]; exact x9 i hi, fun i hi => by rw [h107 _ (by omega)]; exact x10 i hi, fun z => by omega⟩
  · obtain ⟨eF, eM, e1, e2, e3, e4, e5⟩ := d5
    refine ⟨eF, eM, by rw [FR.F f (by decide)]; exact e1, by rw [FR.F f (by decide)]; exact e2, e3, by rw [cE_eq PR (fun p _ => FR.A f (by decide))]; exact e4, fun i h1 h2 => ?_⟩
    obtain ⟨q1, q2, q3, q4⟩ := e5 i h1 h2
    rw [FR.A f (by decide), FR.A f (by decide), FR.A f (by decide), f.2.2.2 148 (by decide)]
    refine ⟨q1, q2, q3, ?_⟩
    rcases q4 with q4 | ⟨q4, q5, q6⟩
    · exact Or.inl q4
    · refine Or.inr ⟨q4, ?_, gtp _ _ (fun z => ?_) q6⟩
      · rw [FR.A f (by decide)]; exact q5
      · rcases q5 with q5 | ⟨q5, q7⟩
        · omega
        · rw [z] at q7; exact hal q7
end
