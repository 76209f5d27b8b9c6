def PfI : List Nat := [32, 39, 46, 56, 58, 65, 66, 67, 68, 69, 70, 71, 72, 73, 75, 77, 83, 84]
def PfA : List Nat := [23, 24, 25, 26, 27, 28, 29, 30, 31, 33, 35, 36, 37, 38, 40, 41, 42, 43, 44, 45, 53, 54, 55, 57, 59, 60, 61, 62, 63, 64, 74, 76, 78, 79, 80, 81, 82]
def nu (u0 : MS) (i : Nat) : Nat := if i = 0 then 1 else if A u0 6 (i - 1) = 1 ∨ A u0 6 (i - 1) = 2 ∨ A u0 6 (i - 1) = 3 ∨ A u0 6 (i - 1) = 4 then 0 else 1
theorem nu_le (u0 : MS) (i : Nat) : nu u0 i ≤ 1 := by
  unfold nu
  split
  · exact Nat.le_refl _
  · split <;> omega
def TKW (u0 : MS) (TN SN : Nat) (bw : Nat → Nat) : Prop :=
  (TN ≤ 4000 ∧ (A u0 6 TN = 0 ∨ A u0 6 TN = 7)) ∧
  (∀ i, i < TN → 1 ≤ A u0 6 i ∧ A u0 6 i ≤ 7 ∧ (A u0 6 i = 1 → 0 ≤ A u0 7 i ∧ A u0 7 i < F u0 14) ∧ (A u0 6 i = 2 → 0 ≤ A u0 7 i ∧ A u0 7 i < F u0 17) ∧ (A u0 6 i = 3 → 0 ≤ A u0 7 i ∧ A u0 7 i ≤ 14) ∧ (A u0 6 i = 5 → 0 ≤ A u0 7 i ∧ A u0 7 i < SN)) ∧
  (0 ≤ F u0 17 ∧ F u0 17 ≤ 1342 ∧ ∀ k : Nat, (k : Int) < F u0 17 → 0 ≤ A u0 16 k ∧ A u0 16 k ≤ 4900) ∧
  (∀ i, i < TN → bw i + 1 ≤ bw (i + 1) ∧ (A u0 6 i = 3 → A u0 7 i = 6 ∨ A u0 7 i = 7 → bw i + 3 ≤ bw (i + 1)) ∧ (A u0 6 i = 6 → A u0 7 i = 10 → bw i + 2 ≤ bw (i + 1)) ∧ (A u0 6 i = 5 → bw i + 2 ≤ bw (i + 1)) ∧ (A u0 6 i = 3 → A u0 7 i = 6 → bw i + 4 ≤ bw (i + 1) + nu u0 i)) ∧ bw TN ≤ 4000
def SCP (nm : Int) (σ : Nat) (u : MS) : Prop := ∀ s, s ≤ σ → (0 ≤ A u 60 s ∧ A u 60 s ≤ A u 64 s ∧ 0 ≤ A u 63 s ∧ A u 63 s ≤ 60 ∧ A u 64 s ≤ 1400) ∧
  (∀ i : Nat, (i : Int) < A u 60 s → 0 ≤ A u 59 (1400 * s + i) ∧ A u 59 (1400 * s + i) < nm ∧ ∀ j, j < i → A u 59 (1400 * s + j) ≠ A u 59 (1400 * s + i)) ∧
  (s = 0 → A u 63 s = 0) ∧ ∀ i : Nat, (i : Int) < A u 63 s → 0 < s → NCO (A u 62 (1400 * s + i)) (A u 60 (s - 1)).toNat (A u 63 (s - 1)).toNat
def K44 (u : MS) : Prop := ∀ i, 0 ≤ A u 44 i ∧ A u 44 i < 4002
def NGD (u0 : MS) (u : MS) : Prop := ∀ i : Nat, (i : Int) < F u 32 → 0 ≤ A u 24 i ∧ A u 24 i < 4002 ∧ (A u 23 i = 12 → 0 ≤ A u 25 i ∧ A u 25 i < F u0 14)
def ST (u0 : MS) (σ : Nat) (p o n q c f h s w g : Int) (u : MS) : Prop :=
  FR PfI [] PfA [34] u0 u ∧ (F u 69 = p ∧ F u 70 = o ∧ F u 32 = n ∧ F u 39 = q ∧ F u 46 = c ∧ F u 56 = f ∧ F u 58 = h ∧ F u 75 = 8 * s ∧ F u 77 = 54 * s ∧ F u 83 = w ∧ F u 73 = g ∧ F u 65 = σ) ∧
  ((0 ≤ F u 71 ∧ F u 71 < 4002) ∧ (g = 0 ∨ g = 1) ∧ (F u 66 = 0 ∨ F u 66 = 1)) ∧ SCP (F u0 17) σ u ∧ K44 u ∧ NGD u0 u
def FSM (u0 : MS) (TN σ : Nat) (d : Int) (u : MS) : Prop :=
  FR PfI [] PfA [34] u0 u ∧ F u 67 ≠ 0 ∧ (0 ≤ F u 69 ∧ F u 69 ≤ TN + 1 ∧ 0 ≤ F u 71 ∧ F u 71 < 4002) ∧ F u 65 = σ ∧ (0 ≤ F u 32 ∧ F u 32 ≤ 12000 + d) ∧ (0 ≤ F u 58 ∧ F u 58 + 60 * σ ≤ 23400) ∧ (∀ s, s ≤ σ → 0 ≤ A u 63 s ∧ A u 63 s ≤ 60) ∧ K44 u
def NM (TN : Nat) (bw : Nat → Nat) (k j l : Int) (σ : Nat) (p o n q c f h s w : Int) : Prop :=
  (0 ≤ p ∧ p ≤ TN ∧ TN ≤ 4000) ∧ (0 ≤ o ∧ o ≤ 25) ∧ (0 ≤ n ∧ n ≤ 3 * p) ∧ (0 ≤ q ∧ 2 * q ≤ p) ∧ (0 ≤ c ∧ 3 * c ≤ p + 3 * o + k) ∧ (0 ≤ f ∧ f ≤ c) ∧ (0 ≤ h ∧ 11 * h ≤ 60 * bw p.toNat) ∧ (σ + j ≤ o) ∧ (0 ≤ s ∧ s + l ≤ o) ∧ (0 ≤ w ∧ 2 * w ≤ p + 2 * o) ∧ bw p.toNat ≤ 4000
def KPR (σ : Nat) (u v : MS) : Prop :=
  FR PfI [] PfA [34] u v ∧
  ((∀ (r i : Nat), r ∈ [23, 24, 25, 26, 27, 28, 29, 30, 31] → (i : Int) < F u 32 → A v r i = A u r i) ∧ (∀ (r i : Nat), r ∈ [33, 35, 36, 37, 38] → (i : Int) < F u 39 → A v r i = A u r i) ∧ (∀ (r i : Nat), r ∈ [40, 41, 42, 43, 45] → (i : Int) < F u 46 → A v r i = A u r i) ∧ (∀ (r i : Nat), r ∈ [53, 54, 55] → (i : Int) < F u 56 → A v r i = A u r i) ∧ (∀ i : Nat, (i : Int) < F u 58 → A v 57 i = A u 57 i)) ∧
  ((∀ (s i : Nat), s ≤ σ → (i : Int) < A u 60 s → A v 59 (1400 * s + i) = A u 59 (1400 * s + i)) ∧ (∀ (r s i : Nat), r ∈ [61, 62] → s ≤ σ → (i : Int) < A u 63 s → A v r (1400 * s + i) = A u r (1400 * s + i)) ∧ (∀ s, s < σ → A v 60 s = A u 60 s) ∧ (∀ s, s ≤ σ → A u 60 s ≤ A v 60 s ∧ A u 63 s ≤ A v 63 s ∧ A u 64 s ≤ A v 64 s)) ∧
  ((∀ i : Nat, (i : Int) < F u 75 → A v 74 i = A u 74 i) ∧ (∀ i : Nat, (i : Int) < F u 77 → A v 76 i = A u 76 i) ∧ (∀ (r i : Nat), r ∈ [79, 80, 81, 82] → (i : Int) < F u 83 → A v r i = A u r i)) ∧
  (F u 32 ≤ F v 32 ∧ F u 39 ≤ F v 39 ∧ F u 46 ≤ F v 46 ∧ F u 56 ≤ F v 56 ∧ F u 58 ≤ F v 58 ∧ F u 75 ≤ F v 75 ∧ F u 77 ≤ F v 77 ∧ F u 83 ≤ F v 83) ∧ (F v 72 = 0 → F u 72 = 0) ∧ (F v 66 = 0 → F u 66 = 0)
def DLT (bw : Nat → Nat) (x y : Int) (b : Nat) (p n q c f h p2 n2 q2 c2 f2 h2 : Int) : Prop :=
  p + y ≤ p2 ∧ n ≤ n2 ∧ n2 - n + x ≤ 3 * (p2 - p) ∧ q ≤ q2 ∧ 2 * (q2 - q) ≤ p2 - p ∧ c ≤ c2 ∧ 3 * (c2 - c) + y ≤ p2 - p ∧ f ≤ f2 ∧ f2 - f ≤ c2 - c ∧ h ≤ h2 ∧ 11 * (h2 - h) + 60 * (b : Int) ≤ 60 * ((bw p2.toNat : Int) - bw p.toNat)
section
variable {u0 u v w : MS} {TN SN σ : Nat} {bw : Nat → Nat} {p o n q c f h s wt g k j l d : Int}
theorem bw_le (t : TKW u0 TN SN bw) {i : Nat} : ∀ m, i + m ≤ TN → bw i + m ≤ bw (i + m) := by
  intro m
  induction m with
  | zero => intro _; exact Nat.le_refl _
  | succ m ih =>
    intro hm
    have h1 := ih (by omega)
    have h2 := (t.2.2.2.1 (i + m) (by omega)).1
    have h3 : i + (m + 1) = i + m + 1 := by omega
    rw [h3]
    omega
theorem bw_mono (t : TKW u0 TN SN bw) {i m : Nat} (h1 : i ≤ m) (h2 : m ≤ TN) : bw i + (m - i) ≤ bw m := by
  have := bw_le t (i := i) (m - i) (by omega)
  rwa [show i + (m - i) = m from by omega] at this
theorem bw_top (t : TKW u0 TN SN bw) {i : Nat} (h : i ≤ TN) : bw i ≤ 4000 := by
  have := bw_mono t h (Nat.le_refl TN)
  have := t.2.2.2.2
  omega
theorem KPR_rf : KPR σ u u := ⟨FR.rf, ⟨fun _ _ _ _ => rfl, fun _ _ _ _ => rfl, fun _ _ _ _ => rfl, fun _ _ _ _ => rfl, fun _ _ => rfl⟩, ⟨fun _ _ _ _ => rfl, fun _ _ _ _ _ _ => rfl, fun _ _ => rfl, fun _ _ => ⟨Int.le_refl _, Int.le_refl _, Int.le_refl _⟩⟩, ⟨fun _ _ => rfl, fun _ _ => rfl, fun _ _ _ _ => rfl⟩, ⟨Int.le_refl _, Int.le_refl _, Int.le_refl _, Int.le_refl _, Int.le_refl _, Int.le_refl _, Int.le_refl _, Int.le_refl _⟩, id, id⟩
theorem KPR_tr (a : KPR σ u v) (b : KPR σ v w) : KPR σ u w := by
  obtain ⟨a0, ⟨a1, a2, a3, a4, a5⟩, ⟨a6, a7, a8, a9⟩, ⟨a10, a11, a12⟩, ⟨a13, a14, a15, a16, a17, a18, a19, a20⟩, a21, a22⟩ := a
  obtain ⟨b0, ⟨b1, b2, b3, b4, b5⟩, ⟨b6, b7, b8, b9⟩, ⟨b10, b11, b12⟩, ⟨b13, b14, b15, b16, b17, b18, b19, b20⟩, b21, b22⟩ := b
  refine ⟨FR.tr a0 b0, ⟨fun r i h1 h2 => (b1 r i h1 (by omega)).trans (a1 r i h1 h2), fun r i h1 h2 => (b2 r i h1 (by omega)).trans (a2 r i h1 h2), fun r i h1 h2 => (b3 r i h1 (by omega)).trans (a3 r i h1 h2), fun r i h1 h2 => (b4 r i h1 (by omega)).trans (a4 r i h1 h2), fun i h2 => (b5 i (by omega)).trans (a5 i h2)⟩, ⟨fun s i h1 h2 => (b6 s i h1 (by have := a9 s h1; omega)).trans (a6 s i h1 h2), fun r s i h0 h1 h2 => (b7 r s i h0 h1 (by have := a9 s h1; omega)).trans (a7 r s i h0 h1 h2), fun s h1 => (b8 s h1).trans (a8 s h1), fun s h1 => ?_⟩, ⟨fun i h2 => (b10 i (by omega)).trans (a10 i h2), fun i h2 => (b11 i (by omega)).trans (a11 i h2), fun r i h1 h2 => (b12 r i h1 (by omega)).trans (a12 r i h1 h2)⟩, ⟨by omega, by omega, by omega, by omega, by omega, by omega, by omega, by omega⟩, fun z => a21 (b21 z), fun z => a22 (b22 z)⟩
  have := a9 s h1
  have := b9 s h1
  omega
theorem KPR_dn (a : KPR (σ + 1) u v) : KPR σ u v := by
  obtain ⟨a0, a1, ⟨a6, a7, a8, a9⟩, a10⟩ := a
  exact ⟨a0, a1, ⟨fun s i h1 => a6 s i (by omega), fun r s i h0 h1 => a7 r s i h0 (by omega), fun s h1 => a8 s (by omega), fun s h1 => a9 s (by omega)⟩, a10⟩
theorem KPR_fr {is : List Nat} {js : List Nat} (a : FR is [] js [34] u v) (h1 : is ⊆ [67, 68, 69, 70, 71, 73, 84]) (h2 : js ⊆ [44, 78]) : KPR σ u v := by
  have f : ∀ k, k ∉ [67, 68, 69, 70, 71, 73, 84] → F v k = F u k := fun k hk => a.F (fun z => hk (h1 z))
  have g : ∀ k i, k ∉ [44, 78] → A v k i = A u k i := fun k i hk => a.A (fun z => hk (h2 z))
  refine ⟨FR.mo a (fun k z => ?_) (fun k z => z) (fun k z => ?_) (fun k z => z), ⟨fun r i hr _ => g r i ?_, fun r i hr _ => g r i ?_, fun r i hr _ => g r i ?_, fun r i hr _ => g r i ?_, fun i _ => g 57 i (by decide)⟩, ⟨fun s i _ _ => g 59 _ (by decide), fun r s i hr _ _ => g r _ ?_, fun s _ => g 60 s (by decide), fun s _ => ?_⟩, ⟨fun i _ => g 74 i (by decide), fun i _ => g 76 i (by decide), fun r i hr _ => g r i ?_⟩, ?_, ?_, ?_⟩
  · have hk := h1 z
    have : ∀ k, k ∈ [67, 68, 69, 70, 71, 73, 84] → k ∈ PfI := by decide
    exact this k hk
  · have hk := h2 z
    have : ∀ k, k ∈ [44, 78] → k ∈ PfA := by decide
    exact this k hk
  · have : ∀ r, r ∈ [23, 24, 25, 26, 27, 28, 29, 30, 31] → r ∉ [44, 78] := by decide
    exact this r hr
  · have : ∀ r, r ∈ [33, 35, 36, 37, 38] → r ∉ [44, 78] := by decide
    exact this r hr
  · have : ∀ r, r ∈ [40, 41, 42, 43, 45] → r ∉ [44, 78] := by decide
    exact this r hr
  · have : ∀ r, r ∈ [53, 54, 55] → r ∉ [44, 78] := by decide
    exact this r hr
  · have : ∀ r, r ∈ [61, 62] → r ∉ [44, 78] := by decide
    exact this r hr
  · rw [g 60 s (by decide), g 63 s (by decide), g 64 s (by decide)]
    exact ⟨Int.le_refl _, Int.le_refl _, Int.le_refl _⟩
  · have : ∀ r, r ∈ [79, 80, 81, 82] → r ∉ [44, 78] := by decide
    exact this r hr
  · rw [f 32 (by decide), f 39 (by decide), f 46 (by decide), f 56 (by decide), f 58 (by decide), f 75 (by decide), f 77 (by decide), f 83 (by decide)]
    exact ⟨Int.le_refl _, Int.le_refl _, Int.le_refl _, Int.le_refl _, Int.le_refl _, Int.le_refl _, Int.le_refl _, Int.le_refl _⟩
  · rw [f 72 (by decide)]; exact id
  · rw [f 66 (by decide)]; exact id
theorem SCP_fr {is ls as js : List Nat} {nm : Int} (h : SCP nm σ u) (a : FR is ls as js u v) (h1 : ∀ k, k ∈ as → k ∉ [59, 60, 62, 63, 64]) : SCP nm σ v := by
  intro s hs
  have g : ∀ k i, k ∈ [59, 60, 62, 63, 64] → A v k i = A u k i := fun k i hk => a.A (fun z => h1 k z hk)
  obtain ⟨q1, q2, q3, q4⟩ := h s hs
  rw [g 60 s (by decide), g 63 s (by decide), g 64 s (by decide), g 60 (s - 1) (by decide), g 63 (s - 1) (by decide)]
  exact ⟨q1, fun i hi => by rw [g 59 _ (by decide)]; exact ⟨(q2 i hi).1, (q2 i hi).2.1, fun j hj => by rw [g 59 _ (by decide)]; exact (q2 i hi).2.2 j hj⟩, q3, fun i hi => by rw [g 62 _ (by decide)]; exact q4 i hi⟩
end
