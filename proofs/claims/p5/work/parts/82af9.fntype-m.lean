section
def EQY (V X : MS) : Prop := F X 14 = F V 14 ∧ (∀ r i : Nat, r ∈ [23, 24, 25, 26, 27, 28, 29, 30, 31] → (i : Int) < F V 32 → A X r i = A V r i) ∧ (∀ r i : Nat, r ∈ [40, 41, 42, 43, 45] → (i : Int) < F V 46 → A X r i = A V r i) ∧ (∀ r i : Nat, r ∈ [33, 35, 36, 37, 38] → (i : Int) < F V 39 → A X r i = A V r i) ∧ (∀ r i : Nat, r ∈ [53, 54, 55] → (i : Int) < F V 56 → A X r i = A V r i) ∧ (∀ i : Nat, (i : Int) < F V 58 → A X 57 i = A V 57 i) ∧ (F V 32 ≤ F X 32 ∧ F V 46 ≤ F X 46 ∧ F V 39 ≤ F X 39 ∧ F V 56 ≤ F X 56 ∧ F V 58 ≤ F X 58)
def FCY (SN : Nat) (a b : Nat → Nat) (v : MS) (k many : Nat) (l : Int) : Prop := ∃ (μ : Nat → Nat → Nat) (r : Nat → Nat) (mm X Y : Nat), CHD v SN true (-1) k μ r many 0 mm X Y 0 ∧ (μ 0 = a ∧ μ k = b) ∧ (∀ j, j < k → A v 29 (r j) = -1) ∧ (0 < k → l = ((μ (k - 1) 1 : Nat) : Int)) ∧ mm ≤ 40 ∧ X ≤ 750 ∧ Y ≤ 25
def FNT (w : MS) (SN g : Nat) (Bd : Nat → Nat → Nat) : Prop := (∀ i, Bd 0 i = 0) ∧ ∀ f, f < g → (∀ i, Bd f i ≤ Bd (f + 1) i) ∧ ∃ (many k : Nat) (l : Int), 0 < k ∧ A w 48 f = ((many : Nat) : Int) ∧ A w 50 f = ((Bd f 1 : Nat) : Int) ∧ FCY SN (Bd f) (Bd (f + 1)) w k many l
section
variable {u v w x V X : MS} {σ SN k many e g TN : Nat} {l c1 : Int} {a b : Nat → Nat} {Bd : Nat → Nat → Nat}
theorem EQY_rf : EQY v v := ⟨rfl, fun _ _ _ _ => rfl, fun _ _ _ _ => rfl, fun _ _ _ _ => rfl, fun _ _ _ _ => rfl, fun _ _ => rfl, Int.le_refl _, Int.le_refl _, Int.le_refl _, Int.le_refl _, Int.le_refl _⟩
theorem EQY_tr (a : EQY v w) (b : EQY w x) : EQY v x := by
  obtain ⟨a1, a2, a3, a4, a5, a6, a8⟩ := a
  obtain ⟨b1, b2, b3, b4, b5, b6, b8⟩ := b
  exact ⟨b1.trans a1, fun r i hr h2 => (b2 r i hr (by omega)).trans (a2 r i hr h2), fun r i hr h2 => (b3 r i hr (by omega)).trans (a3 r i hr h2), fun r i hr h2 => (b4 r i hr (by omega)).trans (a4 r i hr h2), fun r i hr h2 => (b5 r i hr (by omega)).trans (a5 r i hr h2), fun i h2 => (b6 i (by omega)).trans (a6 i h2), by omega⟩
theorem EQY_kp (k : KPR σ v w) : EQY v w := by
  obtain ⟨a0, ⟨a1, a2, a3, a4, a5⟩, -, -, a13, -⟩ := k
  exact ⟨a0.F (by decide), a1, a3, a2, a4, a5, by omega⟩
theorem EQY_fr {is as js : List Nat} (f : FR is [] as js v w) (h1 : ∀ k, k ∈ [14, 32, 46, 39, 56, 58] → k ∉ is) (h2 : ∀ k, k ∈ [23, 24, 25, 26, 27, 28, 29, 30, 31, 40, 41, 42, 43, 45, 33, 35, 36, 37, 38, 53, 54, 55, 57] → k ∉ as) : EQY v w := by
  have e : ∀ k, k ∈ [14, 32, 46, 39, 56, 58] → F w k = F v k := fun k hk => f.F (h1 k hk)
  have m1 : ∀ r, r ∈ [23, 24, 25, 26, 27, 28, 29, 30, 31] → r ∈ [23, 24, 25, 26, 27, 28, 29, 30, 31, 40, 41, 42, 43, 45, 33, 35, 36, 37, 38, 53, 54, 55, 57] := by decide
  have m2 : ∀ r, r ∈ [40, 41, 42, 43, 45] → r ∈ [23, 24, 25, 26, 27, 28, 29, 30, 31, 40, 41, 42, 43, 45, 33, 35, 36, 37, 38, 53, 54, 55, 57] := by decide
  have m3 : ∀ r, r ∈ [33, 35, 36, 37, 38] → r ∈ [23, 24, 25, 26, 27, 28, 29, 30, 31, 40, 41, 42, 43, 45, 33, 35, 36, 37, 38, 53, 54, 55, 57] := by decide
  have m4 : ∀ r, r ∈ [53, 54, 55] → r ∈ [23, 24, 25, 26, 27, 28, 29, 30, 31, 40, 41, 42, 43, 45, 33, 35, 36, 37, 38, 53, 54, 55, 57] := by decide
  refine ⟨e 14 (by decide), fun r i hr _ => f.A (h2 r (m1 r hr)), fun r i hr _ => f.A (h2 r (m2 r hr)), fun r i hr _ => f.A (h2 r (m3 r hr)), fun r i hr _ => f.A (h2 r (m4 r hr)), fun i _ => f.A (h2 57 (by decide)), ?_⟩
  rw [e 32 (by decide), e 46 (by decide), e 39 (by decide), e 56 (by decide), e 58 (by decide)]; omega
theorem EQY_mk (e : EQY V X) : ∀ i, mks V i ≤ mks X i := fun i => by
  obtain ⟨-, -, -, -, -, -, a8⟩ := e
  unfold mks
  split
  · omega
  · split
    · omega
    · split
      · omega
      · split
        · omega
        · omega
theorem CHD_eqy {m mm XX Y sh : Nat} {μ : Nat → Nat → Nat} {r : Nat → Nat} {root : Int} {y : Int} {i0 : Nat} (s : CHD V SN true root k μ r many m mm XX Y sh) (e : EQY V X) (hb : ∀ i, μ k i ≤ mks V i) (hw : w = X ∨ w = wa X 45 i0 y) (hi : (0 < k → i0 = μ (k - 1) 1) ∨ μ k 1 ≤ i0 ∨ i0 < μ 0 1) (j : Nat) (hj : j < k) : PTD w SN true root (μ j) (μ (j + 1)) many m mm XX Y sh (r j) := by
  obtain ⟨a1, a2, a3, a4, a5, a6, -⟩ := e
  have m0 : mks V 0 = (F V 32).toNat := rfl
  have m1 : mks V 1 = (F V 46).toNat := rfl
  have m2 : mks V 2 = (F V 39).toNat := rfl
  have m3 : mks V 3 = (F V 56).toNat := rfl
  have m4 : mks V 4 = (F V 58).toNat := rfl
  have le : ∀ j t, j ≤ k → μ 0 t ≤ μ j t ∧ μ j t ≤ μ k t := fun j t hj => by
    have q1 := CHD_le s j 0 (by omega) t
    have q2 := CHD_le s (k - j) j (by omega) t
    rw [Nat.zero_add] at q1
    rw [show j + (k - j) = k by omega] at q2
    exact ⟨q1, q2⟩
  have b0 := le (j + 1) 0 (by omega)
  have b1 := le (j + 1) 1 (by omega)
  have b1' := le j 1 (by omega)
  have b2 := le (j + 1) 2 (by omega)
  have b3 := le (j + 1) 3 (by omega)
  have b4 := le (j + 1) 4 (by omega)
  have h0 := hb 0
  have h1 := hb 1
  have h2 := hb 2
  have h3 := hb 3
  have h4 := hb 4
  have wF : ∀ t, F w t = F X t := fun t => by
    rcases hw with z | z
    · rw [z]
    · rw [z, F_wa]
  have wA : ∀ t i, (t = 45 → i ≠ i0) → A w t i = A X t i := fun t i ht => by
    rcases hw with z | z
    · rw [z]
    · rw [z]
      by_cases q : t = 45
      · exact wa_ne (ht q)
      · exact wa_rne q
  have n1 : ∀ r, r ∈ [23, 24, 25, 26, 27, 28, 29, 30, 31] → r ≠ 45 := by decide
  have n2 : ∀ r, r ∈ [33, 35, 36, 37, 38] → r ≠ 45 := by decide
  have n3 : ∀ r, r ∈ [53, 54, 55] → r ≠ 45 := by decide
  refine PTD_ag (s.1 j hj) ⟨(wF 14).trans a1, fun r i hr _ h2 _ => (wA r i (fun z => absurd z (n1 r hr))).trans (a2 r i hr (by omega)), fun r i hr g1 g2 g3 => (wA r i (fun z => ?_)).trans (a3 r i hr (by omega)), fun r i hr h2 => (wA r i (fun z => absurd z (n2 r hr))).trans (a4 r i hr (by omega)), fun r i hr _ h2 => (wA r i (fun z => absurd z (n3 r hr))).trans (a5 r i hr (by omega)), fun i h2 => (wA 57 i (fun z => absurd z (by decide))).trans (a6 i (by omega))⟩
  have g4 := g3 z
  rcases hi with hi | hi | hi
  · have h5 := hi (by omega)
    by_cases q : j = k - 1
    · rw [← q] at h5; omega
    · have q1 := CHD_le s (k - 1 - (j + 1)) (j + 1) (by omega) 1
      rw [show j + 1 + (k - 1 - (j + 1)) = k - 1 by omega] at q1
      omega
  · omega
  · omega
theorem FNT_eqy {y : Int} {i0 : Nat} (h : FNT V SN g Bd) (e : EQY V X) (hb : ∀ i, Bd g i ≤ mks V i) (hw : w = X ∨ (w = wa X 45 i0 y ∧ Bd g 1 ≤ i0)) (h48 : ∀ f, f < g → A X 48 f = A V 48 f ∧ A X 50 f = A V 50 f) : FNT w SN g Bd := by
  obtain ⟨h0, h1⟩ := h
  have le : ∀ d f, f + d = g → ∀ i, Bd f i ≤ Bd g i := by
    intro d
    induction d with
    | zero => intro f hf i; obtain rfl : f = g := by omega
              exact Nat.le_refl _
    | succ d ih => intro f hf i; exact Nat.le_trans ((h1 f (by omega)).1 i) (ih (f + 1) (by omega) i)
  have wA : ∀ t i, t ≠ 45 → A w t i = A X t i := fun t i ht => by
    rcases hw with z | z
    · rw [z]
    · rw [z.1]; exact wa_rne ht
  refine ⟨h0, fun f hf => ?_⟩
  obtain ⟨b1, many, k, l, b2, b3, b4, μ, r, mm, X1, Y, c1, ⟨c2, c3⟩, c4, c5, c6⟩ := h1 f hf
  have lf := le (g - (f + 1)) (f + 1) (by omega)
  have bv : ∀ i, μ k i ≤ mks V i := fun i => by rw [c3]; exact Nat.le_trans (lf i) (hb i)
  have hw' : w = X ∨ w = wa X 45 i0 y := by
    rcases hw with z | z
    · exact Or.inl z
    · exact Or.inr z.1
  have m0 : mks V 0 = (F V 32).toNat := rfl
  have m1 : mks V 1 = (F V 46).toNat := rfl
  have b0v := bv 0
  have b1v := bv 1
  have lf1 := lf 1
  have wc : ∀ i : Nat, i < μ k 1 → A w 45 i = A V 45 i := fun i hi => by
    have e3 := e.2.2.1 45 i (by decide) (by omega)
    rcases hw with z | ⟨z, z2⟩
    · rw [z]; exact e3
    · rw [z, wa_ne (by rw [c3] at hi; omega)]; exact e3
  have lek : ∀ j, j ≤ k → μ j 1 ≤ μ k 1 := fun j hj => by
    have q2 := CHD_le c1 (k - j) j (by omega) 1
    rw [show j + (k - j) = k by omega] at q2
    exact q2
  refine ⟨b1, many, k, l, b2, by rw [wA 48 f (by decide), (h48 f hf).1]; exact b3, by rw [wA 50 f (by decide), (h48 f hf).2]; exact b4, μ, r, mm, X1, Y, ⟨fun j hj => ?_, fun j hj => ?_, fun y => ?_⟩, ⟨c2, c3⟩, fun j hj => ?_, c5, c6⟩
  · rcases hw with z | ⟨z, z2⟩
    · exact CHD_eqy (i0 := μ k 1) (y := y) c1 e bv (Or.inl z) (Or.inr (Or.inl (Nat.le_refl _))) j hj
    · exact CHD_eqy c1 e bv hw' (Or.inr (Or.inl (by rw [c3]; omega))) j hj
  · have pl := (PTD_le (c1.1 j (by omega))).2.2.1
    have := lek (j + 1) (by omega)
    rw [wc _ (by omega)]; exact c1.2.1 j hj
  · have pl := (PTD_le (c1.1 (k - 1) (by omega))).2.2.1
    rw [show k - 1 + 1 = k by omega] at pl
    rw [wc _ (by omega)]; exact c1.2.2 y
  · have := CHD_r c1 hj
    rw [wA 29 _ (by decide), e.2.1 29 _ (by decide) (by omega)]
    exact c4 j hj
theorem FCY_add {mm2 X2 Y2 : Nat} (h : FCY SN a (mks v) v k many l) (e : EQY v x) (pt : PTD x SN true (-1) (mks v) (mks x) many 0 mm2 X2 Y2 0 g) (h29 : A x 29 g = -1) (x45 : A x 45 (mks v 1) = -1) (hw : (k = 0 ∧ w = x) ∨ (0 < k ∧ w = wa x 45 l.toNat ((mks v 1 : Nat) : Int))) (hb : mm2 ≤ 40 ∧ X2 ≤ 750 ∧ Y2 ≤ 25) (rc : RG ((mks v 1 : Nat) : Int)) : FCY SN a (mks x) w (k + 1) many ((mks v 1 : Nat) : Int) := by
  obtain ⟨μ, r, mm, X, Y, ch, ⟨m0, mk⟩, hr, hl, b1, b2, b3⟩ := h
  have wA : ∀ t i, (t = 45 → 0 < k → i ≠ l.toNat) → A w t i = A x t i := fun t i ht => by
    rcases hw with ⟨-, y⟩ | ⟨y0, y⟩
    · rw [y]
    · rw [y]
      by_cases z : t = 45
      · exact wa_ne (ht z y0)
      · exact wa_rne z
  have wF : ∀ t, F w t = F x t := fun t => by
    rcases hw with ⟨-, y⟩ | ⟨-, y⟩
    · rw [y]
    · rw [y, F_wa]
  have bv : ∀ i, μ k i ≤ mks v i := fun i => by rw [mk]; exact Nat.le_refl _
  have m0v : mks v 0 = (F v 32).toNat := rfl
  have m1v : mks v 1 = (F v 46).toNat := rfl
  have lt1 : ∀ j, j < k → μ j 1 < μ (j + 1) 1 := fun j hj => (PTD_le (ch.1 j hj)).2.2.1
  have lek : ∀ j, j ≤ k → μ j 1 ≤ mks v 1 := fun j hj => by
    have q2 := CHD_le ch (k - j) j (by omega) 1
    rw [show j + (k - j) = k by omega, mk] at q2
    exact q2
  have lb : 0 < k → l.toNat < mks v 1 ∧ l.toNat = μ (k - 1) 1 := fun y => by
    have h1 := hl y
    have h2 := lt1 (k - 1) (by omega)
    rw [show k - 1 + 1 = k by omega, mk] at h2
    omega
  have hw' : w = x ∨ w = wa x 45 l.toNat ((mks v 1 : Nat) : Int) := by
    rcases hw with z | z
    · exact Or.inl z.2
    · exact Or.inr z.2
  have ptw : PTD w SN true (-1) (mks v) (mks x) many 0 mm2 X2 Y2 0 g := by
    have n1 : ∀ r, r ∈ [23, 24, 25, 26, 27, 28, 29, 30, 31] → r ≠ 45 := by decide
    have n2 : ∀ r, r ∈ [33, 35, 36, 37, 38] → r ≠ 45 := by decide
    have n3 : ∀ r, r ∈ [53, 54, 55] → r ≠ 45 := by decide
    refine PTD_ag pt ⟨wF 14, fun t i ht _ _ _ => wA t i (fun z => absurd z (n1 t ht)), fun t i ht h1 _ _ => wA t i (fun z y => ?_), fun t i ht _ => wA t i (fun z => absurd z (n2 t ht)), fun t i ht _ _ => wA t i (fun z => absurd z (n3 t ht)), fun i _ => wA 57 i (fun z => absurd z (by decide))⟩
    have := lb y
    omega
  have wold : ∀ i : Nat, i < mks v 1 → (0 < k → i ≠ l.toNat) → A w 45 i = A v 45 i := fun i hi hn => by
    rw [wA 45 i (fun _ y => hn y), e.2.2.1 45 i (by decide) (by omega)]
  refine ⟨fun j => if j ≤ k then μ j else mks x, fun j => if j < k then r j else g, max mm mm2, max X X2, max Y Y2, ⟨fun j hj => ?_, fun j hj => ?_, fun _ => ?_⟩, ⟨?_, ?_⟩, fun j hj => ?_, fun _ => ?_, by omega, by omega, by omega⟩
  · by_cases y : j < k
    · simp only [show j ≤ k by omega, show j + 1 ≤ k by omega, y, if_true]
      exact PTD_mo (CHD_eqy ch e bv hw' (Or.inl (fun y => (lb y).2)) j y) (Nat.le_max_left _ _) (Nat.le_max_left _ _) (Nat.le_max_left _ _) (Nat.le_refl _)
    · obtain rfl : j = k := by omega
      simp only [Nat.le_refl, if_true, show ¬ (j + 1 ≤ j) by omega, if_false, Nat.lt_irrefl]
      rw [mk]
      exact PTD_mo ptw (Nat.le_max_right _ _) (Nat.le_max_right _ _) (Nat.le_max_right _ _) (Nat.le_refl _)
  · simp only [show j ≤ k by omega, show j + 1 ≤ k by omega, if_true]
    by_cases y : j + 1 < k
    · have h1 := lt1 j (by omega)
      have h2 := lek (j + 1) (by omega)
      rw [wold _ (by omega) (fun y0 => ?_)]
      · exact ch.2.1 j y
      · have q1 := CHD_le ch (k - 1 - (j + 1)) (j + 1) (by omega) 1
        rw [show j + 1 + (k - 1 - (j + 1)) = k - 1 by omega] at q1
        have := lb y0
        omega
    · obtain rfl : j = k - 1 := by omega
      rw [show k - 1 + 1 = k by omega, mk]
      rcases hw with ⟨y, -⟩ | ⟨y0, y⟩
      · omega
      · rw [y, ← (lb y0).2, wa_eq rc]
  · simp only [Nat.add_sub_cancel, Nat.le_refl, if_true]
    rw [mk, wA 45 _ (fun _ y => by have := lb y; omega)]
    exact x45
  · simp only [Nat.zero_le, if_true]; exact m0
  · simp only [show ¬ (k + 1 ≤ k) by omega, if_false]
  · by_cases q : j < k
    · simp only [q, if_true]
      have := CHD_r ch q
      rw [mk] at this
      rw [wA 29 _ (fun z => absurd z (by decide)), e.2.1 29 _ (by decide) (by omega)]
      exact hr j q
    · simp only [q, if_false]
      rw [wA 29 _ (fun z => absurd z (by decide))]; exact h29
  · simp only [Nat.add_sub_cancel, Nat.le_refl, if_true]
    rw [mk]
theorem FCY_eqy (h : FCY SN a (mks v) v k many l) (e : EQY v x) (hm : mks x = mks v) : FCY SN a (mks x) x k many l := by
  obtain ⟨μ, r, mm, X, Y, ch, ⟨m0, mk⟩, hr, hl, b1, b2, b3⟩ := h
  have bv : ∀ i, μ k i ≤ mks v i := fun i => by rw [mk]; exact Nat.le_refl _
  have m0v : mks v 0 = (F v 32).toNat := rfl
  have m1v : mks v 1 = (F v 46).toNat := rfl
  have lek : ∀ j, j ≤ k → μ j 1 ≤ mks v 1 := fun j hj => by
    have q2 := CHD_le ch (k - j) j (by omega) 1
    rw [show j + (k - j) = k by omega, mk] at q2
    exact q2
  refine ⟨μ, r, mm, X, Y, ⟨fun j hj => CHD_eqy (i0 := μ k 1) (y := 0) ch e bv (Or.inl rfl) (Or.inr (Or.inl (Nat.le_refl _))) j hj, fun j hj => ?_, fun y => ?_⟩, ⟨m0, mk.trans hm.symm⟩, fun j hj => ?_, hl, b1, b2, b3⟩
  · have pl := (PTD_le (ch.1 j (by omega))).2.2.1
    have := lek (j + 1) (by omega)
    rw [e.2.2.1 45 _ (by decide) (by omega)]; exact ch.2.1 j hj
  · have pl := (PTD_le (ch.1 (k - 1) (by omega))).2.2.1
    rw [show k - 1 + 1 = k by omega] at pl
    have := lek k (Nat.le_refl _)
    rw [e.2.2.1 45 _ (by decide) (by omega)]; exact ch.2.2 y
  · have := CHD_r ch hj
    rw [mk] at this
    rw [e.2.1 29 _ (by decide) (by omega)]; exact hr j hj
end
end
section
def PfJ : List Nat := [52, 32, 39, 46, 56, 58, 65, 66, 67, 68, 69, 70, 71, 72, 73, 75, 77, 83, 84]
def PfB : List Nat := [47, 48, 49, 50, 51, 23, 24, 25, 26, 27, 28, 29, 30, 31, 33, 35, 36, 37, 38, 40, 41, 42, 43, 44, 45, 53, 54, 55, 57, 59, 60, 61, 62, 63, 64, 74, 76, 78, 79, 80, 81, 82]
def PRO (u v : MS) : Prop := FR PfJ [] PfB [34] u v
def K49 (v : MS) : Prop := ∀ i, 0 ≤ A v 49 i ∧ A v 49 i < 4002
def PGN (TN : Nat) (bw : Nat → Nat) (v : MS) (p n q c f h : Int) : Prop := (F v 69 = p ∧ F v 70 = 0 ∧ F v 32 = n ∧ F v 39 = q ∧ F v 46 = c ∧ F v 56 = f ∧ F v 58 = h ∧ F v 75 = 0 ∧ F v 77 = 0 ∧ F v 83 = 0 ∧ F v 73 = 0) ∧ ((0 ≤ F v 71 ∧ F v 71 < 4002) ∧ (F v 66 = 0 ∨ F v 66 = 1)) ∧ K44 v ∧ NGD v v ∧ K49 v ∧ NM TN bw 0 0 0 0 p 0 n q c f h 0 0
def FLT (TN : Nat) (u v : MS) : Prop := PRO u v ∧ F v 67 ≠ 0 ∧ (0 ≤ F v 69 ∧ F v 69 ≤ TN + 1 ∧ 0 ≤ F v 71 ∧ F v 71 < 4002) ∧ K44 v ∧ K49 v
def cs (v : MS) : MS := wa (wa (wa (wi (nx1 v) 65 0) 60 0 0) 63 0 0) 64 0 0
section
variable {Q : MS → Unit → Prop} {u v w x : MS} {N TN SN k g : Nat} {bw : Nat → Nat} {p n q c f h l : Int}
theorem TKW_pro (tk : TKW u TN SN bw) (f : PRO u v) : TKW v TN SN bw := by
  have e6 : ∀ i, A v 6 i = A u 6 i := fun i => f.A (by decide)
  have e7 : ∀ i, A v 7 i = A u 7 i := fun i => f.A (by decide)
  have e16 : ∀ i, A v 16 i = A u 16 i := fun i => f.A (by decide)
  have e14 : F v 14 = F u 14 := f.F (by decide)
  have e17 : F v 17 = F u 17 := f.F (by decide)
  have en : ∀ i, nu v i = nu u i := fun i => by unfold nu; simp only [e6]
  obtain ⟨⟨a1, a2⟩, a3, a4, a5, a6⟩ := tk
  refine ⟨⟨a1, by rw [e6]; exact a2⟩, fun i hi => ?_, ?_, fun i hi => ?_, a6⟩
  · rw [e6, e7, e14, e17]; exact a3 i hi
  · rw [e17]
    exact ⟨a4.1, a4.2.1, fun k hk => by rw [e16]; exact a4.2.2 k hk⟩
  · rw [e6, e7, en]; exact a5 i hi
theorem cs_A {r i : Nat} (h : r ≠ 60 ∧ r ≠ 63 ∧ r ≠ 64) : A (cs v) r i = A v r i := by
  unfold cs
  rw [wa_rne h.2.2, wa_rne h.2.1, wa_rne h.1]; rfl
theorem cs_F {k : Nat} (h : k ≠ 65 ∧ k ≠ 69) : F (cs v) k = F v k := by
  unfold cs; rw [F_wa, F_wa, F_wa, wi_ne h.1]; exact wi_ne h.2
theorem cs_FR : FR [69, 65] [] [60, 63, 64] [] v (cs v) := by
  unfold cs nx1
  exact FR.wa (FR.wa (FR.wa (FR.wi (FR.wi FR.rf (by decide)) (by decide)) (by decide)) (by decide)) (by decide)
theorem cs_ST (hv : PGN TN bw v p n q c f h) (hp : 0 ≤ p ∧ p ≤ 4000) : ST (cs v) 0 (p + 1) 0 n q c f h 0 0 0 (cs v) := by
  obtain ⟨⟨e1, e2, e3, e4, e5, e6, e7, e8, e9, e10, e11⟩, ⟨e12, e13⟩, k44, ngd, -, -⟩ := hv
  have ef : ∀ k, k ≠ 65 ∧ k ≠ 69 → F (cs v) k = F v k := fun k hk => cs_F hk
  have f69 : F (cs v) 69 = p + 1 := by
    unfold cs; rw [F_wa, F_wa, F_wa, wi_ne (by decide)]; unfold nx1; rw [wi_eq ⟨by omega, by omega⟩, e1]
  have f65 : F (cs v) 65 = 0 := by
    unfold cs; rw [F_wa, F_wa, F_wa]; exact wi_eq ⟨by decide, by decide⟩
  have z60 : A (cs v) 60 0 = 0 := by unfold cs; rw [wa_rne (by decide), wa_rne (by decide)]; exact wa_eq ⟨by decide, by decide⟩
  have z63 : A (cs v) 63 0 = 0 := by unfold cs; rw [wa_rne (by decide)]; exact wa_eq ⟨by decide, by decide⟩
  have z64 : A (cs v) 64 0 = 0 := by unfold cs; exact wa_eq ⟨by decide, by decide⟩
  refine ⟨FR.rf, ⟨f69, ?_, ?_, ?_, ?_, ?_, ?_, ?_, ?_, ?_, ?_, by rw [f65]; rfl⟩, ⟨?_, Or.inl rfl, ?_⟩, fun s hs => ?_, fun i => ?_, fun i hi => ?_⟩
  · rw [ef 70 (by decide)]; exact e2
  · rw [ef 32 (by decide)]; exact e3
  · rw [ef 39 (by decide)]; exact e4
  · rw [ef 46 (by decide)]; exact e5
  · rw [ef 56 (by decide)]; exact e6
  · rw [ef 58 (by decide)]; exact e7
  · rw [ef 75 (by decide), e8]; rfl
  · rw [ef 77 (by decide), e9]; rfl
  · rw [ef 83 (by decide)]; exact e10
  · rw [ef 73 (by decide)]; exact e11
  · rw [ef 71 (by decide)]; exact e12
  · rw [ef 66 (by decide)]; exact e13
  · obtain rfl : s = 0 := by omega
    rw [z60, z63, z64]
    exact ⟨⟨by omega, by omega, by omega, by omega, by omega⟩, fun i hi => by omega, fun _ => rfl, fun i hi => by omega⟩
  · rw [cs_A (by decide)]; exact k44 i
  · rw [ef 32 (by decide)] at hi
    rw [cs_A (by decide), cs_A (by decide), cs_A (by decide), ef 14 (by decide)]
    exact ngd i hi
theorem PRO_cs (h : PRO u v) : PRO u (cs v) := FR.tr h (FR.mo cs_FR (by decide) (by decide) (by decide) (by decide))
theorem PRO_P (h : PRO u v) (a : FR PfI [] PfA [34] v w) : PRO u w := FR.tr h (FR.mo a (by decide) (by decide) (by decide) (by decide))
theorem EQY_cs : EQY v (cs v) := EQY_fr cs_FR (by decide) (by decide)
theorem mks_cs : mks (cs v) = mks v := mks_c (fun k hk => cs_F (by
  have : ∀ k, k ∈ [32, 39, 46, 56, 58] → k ≠ 65 ∧ k ≠ 69 := by decide
  exact this k hk))
theorem PGN_cl {p2 n2 q2 c2 f2 h2 : Int} (k49 : K49 v) (sx : ST (cs v) 0 p2 0 n2 q2 c2 f2 h2 0 0 0 x) (nm : NM TN bw 0 0 0 0 p2 0 n2 q2 c2 f2 h2 0 0) : PGN TN bw x p2 n2 q2 c2 f2 h2 := by
  obtain ⟨b1, ⟨e1, e2, e3, e4, e5, e6, e7, e8, e9, e10, e11, e12⟩, ⟨b2, b3, b4⟩, -, b7, b8⟩ := sx
  refine ⟨⟨e1, e2, e3, e4, e5, e6, e7, e8, e9, e10, e11⟩, ⟨b2, b4⟩, b7, fun i hi => ?_, fun i => ?_, nm⟩
  · rw [show F x 14 = F (cs v) 14 from b1.F (by decide)]; exact b8 i hi
  · rw [show A x 49 i = A (cs v) 49 i from b1.A (by decide), cs_A (by decide)]; exact k49 i
theorem PGN_fr {is as : List Nat} (hv : PGN TN bw v p n q c f h) (a : FR is [] as [] v w) (h1 : ∀ k, k ∈ is → k ∈ [52, 72]) (h2 : ∀ k, k ∈ as → k ∈ [45, 47, 48, 50, 51]) : PGN TN bw w p n q c f h := by
  obtain ⟨e, ⟨e12, e13⟩, k44, ngd, k49, nm⟩ := hv
  have n1 : ∀ k, k ∈ [69, 70, 32, 39, 46, 56, 58, 75, 77, 83, 73, 71, 66, 14] → k ∉ [52, 72] := by decide
  have n2 : ∀ k, k ∈ [44, 23, 24, 25, 49] → k ∉ [45, 47, 48, 50, 51] := by decide
  have ef : ∀ k, k ∈ [69, 70, 32, 39, 46, 56, 58, 75, 77, 83, 73, 71, 66, 14] → F w k = F v k := fun k hk => a.F (fun z => n1 k hk (h1 k z))
  have eA : ∀ k i, k ∈ [44, 23, 24, 25, 49] → A w k i = A v k i := fun k i hk => a.A (fun z => n2 k hk (h2 k z))
  refine ⟨?_, ?_, fun i => by rw [eA 44 i (by decide)]; exact k44 i, fun i hi => ?_, fun i => by rw [eA 49 i (by decide)]; exact k49 i, nm⟩
  · rw [ef 69 (by decide), ef 70 (by decide), ef 32 (by decide), ef 39 (by decide), ef 46 (by decide), ef 56 (by decide), ef 58 (by decide), ef 75 (by decide), ef 77 (by decide), ef 83 (by decide), ef 73 (by decide)]; exact e
  · rw [ef 71 (by decide), ef 66 (by decide)]; exact ⟨e12, e13⟩
  · rw [ef 32 (by decide)] at hi
    rw [eA 24 i (by decide), eA 23 i (by decide), eA 25 i (by decide), ef 14 (by decide)]; exact ngd i hi
theorem PGN_rule (hv : PGN TN bw v p n q c f h) (a : FR [71, 72] [] [] [] v w) (h71 : 0 ≤ F w 71 ∧ F w 71 < 4002) : PGN TN bw w p n q c f h := by
  obtain ⟨e, ⟨e12, e13⟩, k44, ngd, k49, nm⟩ := hv
  have ef : ∀ k, k ≠ 71 → k ≠ 72 → F w k = F v k := fun k h1 h2 => a.F (by simp; exact ⟨h1, h2⟩)
  have eA : ∀ k i, A w k i = A v k i := fun k i => a.A (by intro z; cases z)
  refine ⟨?_, ⟨h71, ?_⟩, fun i => by rw [eA]; exact k44 i, fun i hi => ?_, fun i => by rw [eA]; exact k49 i, nm⟩
  · rw [ef 69 (by decide) (by decide), ef 70 (by decide) (by decide), ef 32 (by decide) (by decide), ef 39 (by decide) (by decide), ef 46 (by decide) (by decide), ef 56 (by decide) (by decide), ef 58 (by decide) (by decide), ef 75 (by decide) (by decide), ef 77 (by decide) (by decide), ef 83 (by decide) (by decide), ef 73 (by decide) (by decide)]; exact e
  · rw [ef 66 (by decide) (by decide)]; exact e13
  · rw [ef 32 (by decide) (by decide)] at hi
    rw [eA, eA, eA, ef 14 (by decide) (by decide)]; exact ngd i hi
theorem FLT_fr {is as : List Nat} (hv : FLT TN u v) (a : FR is [] as [] v w) (h1 : ∀ k, k ∈ is → k ∈ [52, 72]) (h2 : ∀ k, k ∈ as → k ∈ [45, 47, 48, 50, 51]) : FLT TN u w := by
  obtain ⟨b1, b2, b3, b4, b5⟩ := hv
  have n1 : ∀ k, k ∈ [67, 69, 71] → k ∉ [52, 72] := by decide
  have n2 : ∀ k, k ∈ [44, 49] → k ∉ [45, 47, 48, 50, 51] := by decide
  have m1 : ∀ k, k ∈ [52, 72] → k ∈ PfJ := by decide
  have m2 : ∀ k, k ∈ [45, 47, 48, 50, 51] → k ∈ PfB := by decide
  have ef : ∀ k, k ∈ [67, 69, 71] → F w k = F v k := fun k hk => a.F (fun z => n1 k hk (h1 k z))
  have eA : ∀ k i, k ∈ [44, 49] → A w k i = A v k i := fun k i hk => a.A (fun z => n2 k hk (h2 k z))
  refine ⟨FR.tr b1 (FR.mo a (fun k z => m1 k (h1 k z)) (fun _ z => z) (fun k z => m2 k (h2 k z)) (fun _ z => by cases z)), by rw [ef 67 (by decide)]; exact b2, by rw [ef 69 (by decide), ef 71 (by decide)]; exact b3, fun i => by rw [eA 44 i (by decide)]; exact b4 i, fun i => by rw [eA 49 i (by decide)]; exact b5 i⟩
theorem FLT_67 (hv : FLT TN u v) (a : FR [67, 68] [] [] [] v w) (h : F w 67 ≠ 0) : FLT TN u w := by
  obtain ⟨b1, b2, b3, b4, b5⟩ := hv
  exact ⟨FR.tr b1 (FR.mo a (by decide) (by decide) (by decide) (by decide)), h, by rw [a.F (k := 69) (by decide), a.F (k := 71) (by decide)]; exact b3, fun i => by rw [a.A (by decide)]; exact b4 i, fun i => by rw [a.A (by decide)]; exact b5 i⟩
theorem FLT_rule (hv : FLT TN u v) (a : FR [71, 72] [] [] [] v w) (h71 : 0 ≤ F w 71 ∧ F w 71 < 4002) : FLT TN u w := by
  obtain ⟨b1, b2, b3, b4, b5⟩ := hv
  exact ⟨FR.tr b1 (FR.mo a (by decide) (by decide) (by decide) (by decide)), by rw [a.F (by decide)]; exact b2, ⟨by rw [a.F (by decide)]; exact b3.1, by rw [a.F (by decide)]; exact b3.2.1, h71⟩, fun i => by rw [a.A (by decide)]; exact b4 i, fun i => by rw [a.A (by decide)]; exact b5 i⟩
theorem FLT_of {D : Int} (hu : PRO u v) (k49 : K49 v) (hx : FSM (cs v) TN 0 D x) : FLT TN u x := by
  obtain ⟨c1, c2, c3, c4, c5, c6, c7, c8⟩ := hx
  exact ⟨PRO_P (PRO_cs hu) c1, c2, c3, c8, fun i => by rw [show A x 49 i = A (cs v) 49 i from c1.A (by decide), cs_A (by decide)]; exact k49 i⟩
theorem FLT_pg (hu : PRO u v) (hv : PGN TN bw v p n q c f h) (a : FR [67, 68] [] [] [] v w) (h67 : F w 67 ≠ 0) : FLT TN u w := by
  obtain ⟨e, ⟨e12, e13⟩, k44, ngd, k49, nm⟩ := hv
  have h0 := nm.1
  exact ⟨FR.tr hu (FR.mo a (by decide) (by decide) (by decide) (by decide)), h67, by rw [a.F (k := 69) (by decide), a.F (k := 71) (by decide), e.1]; omega, fun i => by rw [a.A (by decide)]; exact k44 i, fun i => by rw [a.A (by decide)]; exact k49 i⟩
end
end
section
def FTY (TN SN g k : Nat) (l : Int) (v : MS) : Prop := F v 72 = 0 → F v 66 = 0 → TN ≤ 1500 → ∃ Bd : Nat → Nat → Nat, FNT v SN g Bd ∧ ∃ many : Nat, FCY SN (Bd g) (mks v) v k many l ∧ (0 < k → A v 48 g = ((many : Nat) : Int) ∧ A v 50 g = ((Bd g 1 : Nat) : Int))
def FLI (TN SN : Nat) (bw : Nat → Nat) (u v : MS) (g k : Nat) (l p n q c f h : Int) : Prop := PRO u v ∧ F v 67 = 0 ∧ PGN TN bw v p n q c f h ∧ F v 52 = ((g + 1 : Nat) : Int) ∧ (k = 0 → l = -1) ∧ (0 < k → (0 ≤ l ∧ l < c) ∧ 0 ≤ A v 47 g ∧ A v 47 g < F v 14) ∧ (p ≤ TN ∧ 6 * (g : Int) ≤ p ∧ (0 < k → 6 * (g : Int) + 5 ≤ p)) ∧ FTY TN SN g k l v
def FNQ (TN SN : Nat) (bw : Nat → Nat) (u x : MS) (G : Nat) : Prop := PRO u x ∧ F x 67 = 0 ∧ (∃ p n q c f h : Int, PGN TN bw x p n q c f h ∧ p ≤ TN ∧ 6 * (G : Int) ≤ p) ∧ F x 52 = ((G : Nat) : Int) ∧ (F x 72 = 0 → F x 66 = 0 → TN ≤ 1500 → ∃ Bd : Nat → Nat → Nat, FNT x SN G Bd ∧ Bd G = mks x)
section
variable {Q : MS → Unit → Prop} {u v w x : MS} {N TN SN k g : Nat} {bw : Nat → Nat} {p n q c f h l : Int}
theorem there_loop (hg : g < 1000) (h71 : 0 ≤ F v 71 ∧ F v 71 < 4002) (h49 : 0 ≤ A v 49 g ∧ A v 49 g < 4002) (a : Q v ()) (b : F v 67 = 0 → ∀ w, FR [71, 72] [] [] [] v w → F w 72 ≠ 0 → 0 ≤ F w 71 ∧ F w 71 < 4002 → Q w ()) : ∀ (d i : Nat) (s : Int32) (m : Nat), i + d = g → d + 1 ≤ m → OK Q ((gg_M_function0 N m).2 v (I g) s (I i)) := by
  intro d
  induction d with
  | zero =>
    intro i s m hi hm
    obtain ⟨m', rfl⟩ : ∃ m', m = m' + 1 := ⟨m - 1, by omega⟩
    show OK _ (fb_M_function0_264 N (gg_M_function0 N m') v (I g) s (I i))
    unfold fb_M_function0_264 fb_M_function0_341
    refine k_le (x := (g : Int)) (y := (i : Int)) ⟨by omega, by omega⟩ ⟨by omega, by omega⟩ (fun _ => ?_) (fun y => by omega)
    refine ok_br.mpr ⟨fun _ => ok_some.mpr a, fun _ => ?_⟩
    refine k_F (y := 0) rfl ⟨by decide, by decide⟩ (fun z => ?_) (fun _ => ok_some.mpr a)
    refine k_in (k := 49) (n := 1000) rfl (by decide) (by omega) ?_
    have e : v.2.2.1 49 (I (g : Int)).toNatClampNeg = I (A v 49 g) := by rw [I_tn (by omega) (by omega)]; exact I_A
    refine k_rule (s := 4) (t := A v 49 g) rfl ⟨by decide, by decide⟩ (by decide) e h49 h71 (fun w h1 h2 h3 => ok_some.mpr (b z w h1 h2 h3))
  | succ d ih =>
    intro i s m hi hm
    obtain ⟨m', rfl⟩ : ∃ m', m = m' + 1 := ⟨m - 1, by omega⟩
    show OK _ (fb_M_function0_264 N (gg_M_function0 N m') v (I g) s (I i))
    unfold fb_M_function0_264 fb_M_function0_308 fb_M_function0_309
    have e : I (i : Int) + 1 = I ((i + 1 : Nat) : Int) := by rw [lit1q, I_add]; rfl
    have nx : ∀ t : Int32, OK Q ((gg_M_function0 N m').2 v (I g) t (I ((i + 1 : Nat) : Int))) := fun t => ih (i + 1) t m' (by omega) (by omega)
    rw [e]
    refine k_le (x := (g : Int)) (y := (i : Int)) ⟨by omega, by omega⟩ ⟨by omega, by omega⟩ (fun y => by omega) (fun _ => ?_)
    exact k_in (k := 47) (n := 1000) rfl (by decide) (by omega) (k_in (k := 47) (n := 1000) rfl (by decide) (by omega) (ok_br.mpr ⟨fun _ => k_in (k := 48) (n := 1000) rfl (by decide) (by omega) (k_in (k := 48) (n := 1000) rfl (by decide) (by omega) (ok_br.mpr ⟨fun _ => nx _, fun _ => nx _⟩)), fun _ => nx _⟩))
theorem f228_ok (hN : 20000 ≤ N) (hg : g < 1000) (tb : TBL v) (at' : ATM v) (h47 : 0 ≤ A v 47 g ∧ A v 47 g < F v 14) (k49 : K49 v) (hp : 0 ≤ F v 69 ∧ F v 69 ≤ 4001) (h71 : 0 ≤ F v 71 ∧ F v 71 < 4002) {m : Nat} (hm : 1001 ≤ m) (a1 : F v 67 = 0 → IS v 8 → Q (nx1 v) () ∧ ∀ w, FR [71, 72] [] [] [] (nx1 v) w → F w 72 ≠ 0 → 0 ≤ F w 71 ∧ F w 71 < 4002 → Q w ()) (a2 : ∀ w, FR [67, 68] [] [] [] v w → F w 67 ≠ 0 → Q w ()) : OK Q (fb_M_function0_228 N (gg_M_function0 N m) v (I g)) := by
  unfold fb_M_function0_228
  have go : ∀ w, (∀ r i, A w r i = A v r i) → F w 14 = F v 14 → 0 ≤ F w 71 ∧ F w 71 < 4002 → Q w () → (F w 67 = 0 → ∀ y, FR [71, 72] [] [] [] w y → F y 72 ≠ 0 → 0 ≤ F y 71 ∧ F y 71 < 4002 → Q y ()) → OK Q (ck (inb (I g) (ln 47)) (ck (inb (I g) (ln 48)) (bnd (fm_M_predefinedOf N w (w.2.2.1 47 (I (g : Int)).toNatClampNeg) (w.2.2.1 48 (I (g : Int)).toNatClampNeg)) (fun u3 r3 => br (decide (r3 = (-1))) (fb_M_function0_259 N (gg_M_function0 N m) u3 (I g) (0)) (fb_M_function0_259 N (gg_M_function0 N m) u3 (I g) (1)))))) := fun w wA w14 w71 qw qr => by
    refine k_in (k := 47) (n := 1000) rfl (by decide) (by omega) (k_in (k := 48) (n := 1000) rfl (by decide) (by omega) ?_)
    have e : w.2.2.1 47 (I (g : Int)).toNatClampNeg = I (A v 47 g) := by rw [I_tn (by omega) (by omega)]; exact I_A' (wA 47 g)
    rw [e]
    have tw : TBL w := fun k hk => by rw [wA, wA]; exact tb k hk
    have aw : ATM w := by
      obtain ⟨b1, b2, b3⟩ := at'
      exact ⟨by rw [w14]; exact b1, by rw [w14]; exact b2, fun k hk => by rw [w14] at hk; rw [wA, wA]; exact b3 k hk⟩
    refine ok_bnd.mpr (ok_mono (predefinedOf_ok (by omega) tw aw (by rw [w14]; exact h47)) (fun y r hy => ?_))
    rw [hy.1]
    have lp : ∀ s, OK Q (fb_M_function0_259 N (gg_M_function0 N m) w (I g) s) := fun s => by
      unfold fb_M_function0_259
      exact there_loop hg w71 (by rw [wA]; exact k49 g) qw qr g 0 s m (by omega) (by omega)
    exact ok_br.mpr ⟨fun _ => lp 0, fun _ => lp 1⟩
  refine k_needSign (s := 8) rfl ⟨by decide, by decide⟩ hp (fun h0 z => ?_) (fun w h3 h4 => ?_)
  · have q := a1 h0 z
    have f71 : F (nx1 v) 71 = F v 71 := wi_ne (by decide)
    exact go (nx1 v) (fun _ _ => rfl) (wi_ne (by decide)) (by rw [f71]; exact h71) q.1 (fun _ => q.2)
  · exact go w (fun r i => h3.A (by intro z; cases z)) (h3.F (by decide)) (by rw [h3.F (by decide)]; exact h71) (a2 w h3 h4) (fun z => absurd z h4)
theorem FNT_add (hv : FTY TN SN g k l v) (hk : 0 < k) (e : EQY v x) (hm : mks x = mks v) (h1 : F x 72 = 0 → F v 72 = 0) (h2 : F x 66 = 0 → F v 66 = 0) (h48 : ∀ f, f < g + 1 → A x 48 f = A v 48 f ∧ A x 50 f = A v 50 f) : F x 72 = 0 → F x 66 = 0 → TN ≤ 1500 → ∃ Bd : Nat → Nat → Nat, FNT x SN (g + 1) Bd ∧ Bd (g + 1) = mks x := by
  intro z1 z2 z3
  obtain ⟨Bd, b1, many, b2, b3⟩ := hv (h1 z1) (h2 z2) z3
  obtain ⟨μ, r, mm, X, Y, ch, ⟨m0, mk⟩, -⟩ := id b2
  have le : ∀ i, Bd g i ≤ mks v i := fun i => by
    have := CHD_le ch k 0 (by omega) i
    rw [Nat.zero_add, m0, mk] at this
    exact this
  have b1x := FNT_eqy (w := x) (y := 0) (i0 := 0) b1 e le (Or.inl rfl) (fun f hf => h48 f (by omega))
  have b2x := FCY_eqy b2 e hm
  have b3' := b3 hk
  refine ⟨fun f => if f ≤ g then Bd f else mks x, ⟨fun i => ?_, fun f hf => ?_⟩, ?_⟩
  · simp only [Nat.zero_le, if_true]; exact b1.1 i
  · by_cases q : f < g
    · simp only [show f ≤ g by omega, show f + 1 ≤ g by omega, if_true]
      exact b1x.2 f q
    · obtain rfl : f = g := by omega
      simp only [Nat.le_refl, if_true, show ¬ (f + 1 ≤ f) by omega, if_false]
      exact ⟨fun i => by rw [hm]; exact le i, many, k, l, hk, by rw [(h48 f (by omega)).1]; exact b3'.1, by rw [(h48 f (by omega)).2]; exact b3'.2, b2x⟩
  · simp only [show ¬ (g + 1 ≤ g) by omega, if_false]
end
end
section
def tk7 (N : Nat) (G : (MS → Int32 → Int32 → Int32 → Option (MS × Unit)) × (MS → Int32 → Int32 → Int32 → Option (MS × Unit))) (v1 v5 : Int32) (w4 : MS) : Option (MS × Unit) := bnd (fm_M_takeSign N w4 7) (fun u5 r5 => G.1 u5 (v1) (v5) (r5))
def fnC (N : Nat) (G : (MS → Int32 → Int32 → Int32 → Option (MS × Unit)) × (MS → Int32 → Int32 → Int32 → Option (MS × Unit))) (v1 v2 t : Int32) (u12 : MS) (r12 : Int32) : Option (MS × Unit) := br (decide (v2 = (-1))) (ck (inb t (ln 7)) (ck (inb v1 (ln 47)) (lt (upA u12 47 (upd (u12.2.2.1 47) v1.toNatClampNeg (u12.2.2.1 7 t.toNatClampNeg))) (fun w14 => ck (inb r12 (ln 41)) (ck (inb v1 (ln 48)) (lt (upA w14 48 (upd (w14.2.2.1 48) v1.toNatClampNeg (w14.2.2.1 41 r12.toNatClampNeg))) (fun w15 => ck (inb v1 (ln 50)) (lt (upA w15 50 (upd (w15.2.2.1 50) v1.toNatClampNeg r12)) (fun w16 => fb_M_function0_205 N G w16 (v1) (r12)))))))))) (ck (inb v2 (ln 45)) (lt (upA u12 45 (upd (u12.2.2.1 45) v2.toNatClampNeg r12)) (fun w13 => ck (inb t (ln 7)) (ck (inb v1 (ln 47)) (br (decide ((w13.2.2.1 7 t.toNatClampNeg) = (w13.2.2.1 47 v1.toNatClampNeg))) (ck (inb r12 (ln 41)) (ck (inb v1 (ln 48)) (br (decide ((w13.2.2.1 41 r12.toNatClampNeg) = (w13.2.2.1 48 v1.toNatClampNeg))) (fb_M_function0_205 N G w13 (v1) (r12)) (fb_M_function0_198 N G w13 (v1) t (r12))))) (fb_M_function0_198 N G w13 (v1) t (r12)))))))
section
variable {Q : MS → Unit → Prop} {u v w x : MS} {N TN SN k g : Nat} {bw : Nat → Nat} {p n q c f h l : Int} {G : (MS → Int32 → Int32 → Int32 → Option (MS × Unit)) × (MS → Int32 → Int32 → Int32 → Option (MS × Unit))}
theorem f205_ok (hg : g < 1000) {v5 : Int32} (a : ∀ y, OK Q (tk7 N G (I g) v5 (wa x 51 g y))) : OK Q (fb_M_function0_205 N G x (I g) v5) := by
  unfold fb_M_function0_205
  refine k_in (k := 51) (n := 1000) rfl (by decide) (by omega) (k_in (k := 51) (n := 1000) rfl (by decide) (by omega) (ok_lt.mpr ?_))
  rw [I_tn (x := (g : Int)) (by omega) (by omega), show ((g : Nat) : Int).toNat = g by omega, I_of (x.2.2.1 51 g + 1), wa_e]
  exact a _
theorem fnC_ok (hg : g < 1000) (hc : 0 ≤ c ∧ c < 1400) (hp : 0 ≤ p ∧ p < 4002) (hl : l = -1 ∨ (0 ≤ l ∧ l < 1400)) (h71 : 0 ≤ F x 71 ∧ F x 71 < 4002)
    (a0 : l = -1 → ∀ y, OK Q (tk7 N G (I g) (I c) (wa (wa (wa (wa x 47 g (A x 7 p.toNat)) 48 g (A x 41 c.toNat)) 50 g c) 51 g y)))
    (a1 : 0 ≤ l → A x 41 c.toNat = A x 48 g → ∀ y, OK Q (tk7 N G (I g) (I c) (wa (wa x 45 l.toNat c) 51 g y)))
    (a2 : 0 ≤ l → ∀ w, FR [71, 72] [] [] [] (wa x 45 l.toNat c) w → F w 72 ≠ 0 → 0 ≤ F w 71 ∧ F w 71 < 4002 → ∀ y, OK Q (tk7 N G (I g) (I c) (wa w 51 g y))) : OK Q (fnC N G (I g) (I l) (I p) x (I c)) := by
  have eg : (I ((g : Nat) : Int)).toNatClampNeg = g := by rw [I_tn (by omega) (by omega)]; omega
  have ec : (I c).toNatClampNeg = c.toNat := I_tn (by omega) (by omega)
  have ep : (I p).toNatClampNeg = p.toNat := I_tn (by omega) (by omega)
  unfold fnC
  rcases hl with hl | hl
  · refine k_eq (x := l) (y := -1) ⟨by omega, by omega⟩ ⟨by decide, by decide⟩ (fun _ => ?_) (fun z => absurd hl z)
    refine k_in (k := 7) (n := 4002) rfl (by decide) hp (k_in (k := 47) (n := 1000) rfl (by decide) (by omega) (ok_lt.mpr ?_))
    rw [eg, ep, I_A (k := 7), wa_e]
    refine k_in (k := 41) (n := 1400) rfl (by decide) hc (k_in (k := 48) (n := 1000) rfl (by decide) (by omega) (ok_lt.mpr ?_))
    have e41 : (wa x 47 g (A x 7 p.toNat)).2.2.1 41 c.toNat = I (A x 41 c.toNat) := I_A' (wa_rne (by decide))
    rw [ec, e41, wa_e]
    refine k_in (k := 50) (n := 1000) rfl (by decide) (by omega) (ok_lt.mpr ?_)
    rw [wa_e]
    exact f205_ok hg (a0 hl)
  · refine k_eq (x := l) (y := -1) ⟨by omega, by omega⟩ ⟨by decide, by decide⟩ (fun z => by omega) (fun _ => ?_)
    refine k_in (k := 45) (n := 1400) rfl (by decide) hl (ok_lt.mpr (k_in (k := 7) (n := 4002) rfl (by decide) hp (k_in (k := 47) (n := 1000) rfl (by decide) (by omega) ?_)))
    have el : (I l).toNatClampNeg = l.toNat := I_tn (by omega) (by omega)
    rw [el, wa_e]
    have ru : OK Q (fb_M_function0_198 N G (wa x 45 l.toNat c) (I g) (I p) (I c)) := by
      unfold fb_M_function0_198
      exact k_rule (s := 4) (t := p) rfl ⟨by decide, by decide⟩ (by decide) rfl hp (by rw [F_wa]; exact h71) (fun w h1 h2 h3 => f205_ok hg (a2 hl.1 w h1 h2 h3))
    refine ok_br.mpr ⟨fun _ => ?_, fun _ => ru⟩
    refine k_in (k := 41) (n := 1400) rfl (by decide) hc (k_in (k := 48) (n := 1000) rfl (by decide) (by omega) ?_)
    rw [ec, eg]
    have e41 : (wa x 45 l.toNat c).2.2.1 41 c.toNat = I (A x 41 c.toNat) := I_A' (wa_rne (by decide))
    have e48 : (wa x 45 l.toNat c).2.2.1 48 g = I (A x 48 g) := I_A' (wa_rne (by decide))
    rw [e41, e48]
    have r1 := ARG1 x 41 c.toNat
    have r2 := ARG1 x 48 g
    exact k_eq r1 r2 (fun z => f205_ok hg (a1 hl.1 z)) (fun _ => ru)
theorem FCY_0 {a b : Nat → Nat} {m2 : Nat} (hk : k = 0) {m1 : Nat} (h : FCY SN a b v k m1 l) : FCY SN a b v k m2 l := by
  obtain ⟨μ, r, mm, X, Y, ch, h2⟩ := h
  subst hk
  exact ⟨μ, r, mm, X, Y, ⟨fun j hj => by omega, fun j hj => by omega, fun y => by omega⟩, h2⟩
theorem FTY_add {p2 : Int} (hv : FTY TN SN g k l v) (hk0 : k = 0 → l = -1) (e46 : F v 46 = c ∧ 0 ≤ c ∧ c < 1400) (kx : KPR 0 (cs v) x) (ct : CTY TN SN 0 0 (p2 - (p + 1) + 1) c (cs v) x) (s63 : A x 63 0 = 0) (hp : 0 ≤ p ∧ p2 ≤ TN) (hw : (k = 0 ∧ w = x) ∨ (0 < k ∧ w = wa x 45 l.toNat c)) (h41 : 0 < k → A x 41 c.toNat = A x 48 g) (x48 : ∀ i, A x 48 i = A v 48 i ∧ A x 50 i = A v 50 i) {y : MS} (ye : EQY w y) (ym : mks y = mks w) (y48 : ∀ i, i < g → A y 48 i = A w 48 i ∧ A y 50 i = A w 50 i) (yg : (k = 0 → A y 48 g = A x 41 c.toNat ∧ A y 50 g = c) ∧ (0 < k → A y 48 g = A w 48 g ∧ A y 50 g = A w 50 g)) (h72 : F y 72 = 0 → F x 72 = 0) (h66 : F y 66 = 0 → F x 66 = 0) : FTY TN SN g (k + 1) c y := by
  intro z1 z2 z3
  have x72 := h72 z1
  have x66 := h66 z2
  have v72 : F v 72 = 0 := by rw [← cs_F (v := v) (k := 72) (by decide)]; exact kx.2.2.2.2.2.1 x72
  have v66 : F v 66 = 0 := by rw [← cs_F (v := v) (k := 66) (by decide)]; exact kx.2.2.2.2.2.2 x66
  obtain ⟨Bd, b1, m0, b2, b3⟩ := hv v72 v66 z3
  obtain ⟨many, mm, X, Y, r0, pt, t1, t2, t3, t4, t5, t6⟩ := ct x72 x66 z3
  have h0 : hlo 0 x = 0 := by unfold hlo; rw [s63]; rfl
  rw [mks_cs, h0] at pt
  have m1 : mks v 1 = c.toNat := by show (F v 46).toNat = _; rw [e46.1]
  have pm : A x 41 (mks v 1) = ((many : Nat) : Int) := by obtain ⟨_, _, _, _, _, _, -, q, -⟩ := pt; exact q.1
  have ex : EQY v x := EQY_tr EQY_cs (EQY_kp kx)
  have wx : mks w = mks x := by
    rcases hw with ⟨-, q⟩ | ⟨-, q⟩
    · rw [q]
    · rw [q]; exact mks_c (fun k _ => F_wa)
  have wA : ∀ t i, t ≠ 45 → A w t i = A x t i := fun t i ht => by
    rcases hw with ⟨-, q⟩ | ⟨-, q⟩
    · rw [q]
    · rw [q]; exact wa_rne ht
  have cc : ((mks v 1 : Nat) : Int) = c := by rw [m1]; omega
  have mE : 0 < k → many = m0 := fun q => by
    have q1 := h41 q
    have q2 := (b3 q).1
    rw [← m1, pm, (x48 g).1, q2] at q1
    omega
  have b2' : FCY SN (Bd g) (mks v) v k many l := by
    rcases Nat.eq_zero_or_pos k with q | q
    · exact FCY_0 q b2
    · rw [mE q]; exact b2
  have hw2 : (k = 0 ∧ w = x) ∨ (0 < k ∧ w = wa x 45 l.toNat ((mks v 1 : Nat) : Int)) := by rw [cc]; exact hw
  have fc := FCY_add (w := w) b2' ex pt t2 (by rw [m1]; exact t1) hw2 ⟨t3, by omega, by omega⟩ (by rw [cc]; exact ⟨by omega, by omega⟩)
  rw [cc, ← wx] at fc
  have fcy := FCY_eqy fc ye ym
  obtain ⟨μ, r, mm', X', Y', ch, ⟨q0, qk⟩, -, ql, -⟩ := id b2
  have le : ∀ i, Bd g i ≤ mks v i := fun i => by
    have := CHD_le ch k 0 (by omega) i
    rw [Nat.zero_add, q0, qk] at this
    exact this
  have fnw : FNT w SN g Bd := by
    refine FNT_eqy (y := c) (i0 := l.toNat) b1 ex le ?_ (fun f hf => x48 f)
    rcases hw with q | q
    · exact Or.inl q.2
    · refine Or.inr ⟨q.2, ?_⟩
      have h1 := ql q.1
      have h2 := CHD_le ch (k - 1) 0 (by omega) 1
      rw [Nat.zero_add, q0] at h2
      omega
  have lew : ∀ i, Bd g i ≤ mks w i := fun i => by rw [wx]; exact Nat.le_trans (le i) (EQY_mk ex i)
  have fny := FNT_eqy (w := y) (y := 0) (i0 := 0) fnw ye lew (Or.inl rfl) (fun f hf => y48 f hf)
  refine ⟨Bd, fny, many, fcy, fun _ => ?_⟩
  rcases Nat.eq_zero_or_pos k with q | q
  · have := yg.1 q
    subst q
    have e0 : Bd g = mks v := q0.symm.trans qk
    rw [this.1, this.2, e0, cc, ← m1]
    exact ⟨pm, rfl⟩
  · have := yg.2 q
    have b3' := b3 q
    rw [this.1, this.2, wA 48 g (by decide), wA 50 g (by decide), (x48 g).1, (x48 g).2, mE q]
    exact b3'
end
end
section
section
variable {Q : MS → Unit → Prop} {u v w x : MS} {N TN SN k g : Nat} {bw : Nat → Nat} {p n q c f h l : Int}
theorem TBL_pro (tb : TBL u) (f : PRO u v) : TBL v := fun k hk => by
  rw [f.A (k := 2) (by decide), f.A (k := 2) (by decide)]; exact tb k hk
theorem ATM_pro (a : ATM u) (f : PRO u v) : ATM v := by
  obtain ⟨b1, b2, b3⟩ := a
  have e14 : F v 14 = F u 14 := f.F (by decide)
  exact ⟨by rw [e14]; exact b1, by rw [e14]; exact b2, fun k hk => by rw [e14] at hk; rw [f.A (k := 13) (by decide), f.A (k := 13) (by decide)]; exact b3 k hk⟩
theorem tk7_F (hN : 20000 ≤ N) (hT : TN ≤ 4000) (hg : g < 1000) (tb : TBL u) (at' : ATM u) (hv : FLT TN u v) (h47 : 0 ≤ A v 47 g ∧ A v 47 g < F v 14) {v5 : Int32} {m : Nat} (hm : 1002 ≤ m) : OK (fun x _ => FNQ TN SN bw u x (g + 1) ∨ FLT TN u x) (tk7 N (gg_M_function0 N m) (I g) v5 v) := by
  have h69 := hv.2.2.1
  unfold tk7
  refine k_takeSign (s := 7) rfl ⟨by decide, by decide⟩ (by omega) (fun z => absurd z hv.2.1) (fun _ => ?_)
  obtain ⟨m', rfl⟩ : ∃ m', m = m' + 1 := ⟨m - 1, by omega⟩
  show OK _ (fb_M_function0_36 N (gg_M_function0 N m') v (I g) v5 0)
  unfold fb_M_function0_36
  rw [br00]
  exact f228_ok hN hg (TBL_pro tb hv.1) (ATM_pro at' hv.1) h47 hv.2.2.2.2 (by omega) (by omega) (by omega) (fun z => absurd z hv.2.1) (fun w h1 h2 => Or.inr (FLT_67 hv h1 h2))
set_option maxRecDepth 100000 in
theorem fn_loop (tk : TKW u TN SN bw) (hN : 20000 ≤ N) (tb : TBL u) (at' : ATM u) : ∀ (i : Nat) (v : MS) (k : Nat) (l p n q c f h : Int), FLI TN SN bw u v g k l p n q c f h → 4003 - p < i → ∀ m, i + 1100 ≤ m → OK (fun x _ => FNQ TN SN bw u x (g + 1) ∨ FLT TN u x) ((gg_M_function0 N m).1 v (I g) (I l) 1) := by
  have hT := tk.1.1
  intro i
  induction i with
  | zero => intro v k l p n q c f h hv hi; have := hv.2.2.2.2.2.2.1; omega
  | succ i ih =>
    intro v k l p n q c f h hv hi m hm
    obtain ⟨b0, b1, b2, b3, b4, b5, ⟨b6, b7, b8⟩, b9⟩ := hv
    obtain ⟨m', rfl⟩ : ∃ m', m = m' + 1 := ⟨m - 1, by omega⟩
    have tkv := TKW_pro tk b0
    obtain ⟨⟨e1, e2, e3, e4, e5, e6, e7, e8, e9, e10, e11⟩, ⟨e12, e13⟩, k44, ngd, k49, nm⟩ := id b2
    have hp0 : 0 ≤ p := nm.1.1
    have hg : g < 700 := by omega
    have hcb : 0 ≤ c ∧ c < 1399 := by unfold NM at nm; omega
    show OK _ (fb_M_function0_36 N (gg_M_function0 N m') v (I g) (I l) 1)
    unfold fb_M_function0_36
    rw [br10]
    refine k_F (y := 0) rfl ⟨by decide, by decide⟩ (fun _ => ?_) (fun z => absurd b1 z)
    refine k_at (k := 6) (n := 4002) rfl (by decide) (by omega) ?_
    refine k_A (y := 1) rfl ⟨by decide, by decide⟩ (fun y => ?_) (fun _ => ?_)
    · rw [tn_F, e1] at y
      have ltp := tok_lt tkv (by omega) (show ¬ (A v 6 p.toNat = 0 ∨ A v 6 p.toNat = 7) by omega)
      have at7 := (tkv.2.1 p.toNat (by omega)).2.2.1 y
      rw [nx1_e]
      refine ok_lt.mpr (ok_lt.mpr (ok_ck.mpr ⟨rfl, ok_lt.mpr (ok_ck.mpr ⟨rfl, ok_lt.mpr (ok_ck.mpr ⟨rfl, ok_lt.mpr ?_⟩)⟩)⟩))
      show OK _ (bnd (fr_M_clause N (cs v) (v.1 69)) (fun u12 r12 => fnC N (gg_M_function0 N m') (I g) (I l) (v.1 69) u12 r12))
      rw [I_F' e1]
      have sc := cs_ST b2 (by omega)
      have fc : F (cs v) 67 = 0 := (cs_F (by decide)).trans b1
      have tkc := TKW_pro tk (PRO_cs b0)
      have dn := DLT_1 (n := n) (q := q) (c := c) (f := f) (h := h) (m := 0) tkc ⟨by omega, ltp⟩ (by omega)
      rw [show n + 0 = n by omega] at dn
      have nm1 := NM_dlt tkc nm dn (by omega) (by omega) (by omega)
      have c60 : A (cs v) 60 0 = 0 := by unfold cs; rw [wa_rne (by decide), wa_rne (by decide)]; exact wa_eq ⟨by decide, by decide⟩
      have hl : l = -1 ∨ (0 ≤ l ∧ l < 1400) := by
        rcases Nat.eq_zero_or_pos k with z | z
        · exact Or.inl (b4 z)
        · have := (b5 z).1; exact Or.inr (by omega)
      have lk : (l = -1 → k = 0) ∧ (0 ≤ l → 0 < k) := ⟨fun z => by
        rcases Nat.eq_zero_or_pos k with y | y
        · exact y
        · have := (b5 y).1; omega, fun z => by
        rcases Nat.eq_zero_or_pos k with y | y
        · have := b4 y; omega
        · exact y⟩
      refine ok_bnd.mpr (ok_mono (clause_all tkc hN (cs v) 0 _ _ _ _ _ f _ _ _ p sc fc ⟨c60, by omega, by omega, by omega, by omega⟩ nm1) (fun x r hx => ?_))
      obtain ⟨hr, hx⟩ := hx
      rw [hr]
      rcases hx with ⟨x0, p2, n2, q2, c2, f2, h2, x1, x2, x3, ⟨x4, x5, x6⟩, x7, x8⟩ | hx
      · have nm2 := NM_dlt tkc nm1 x4 (by omega) (by omega) x3
        have pgx := PGN_cl k49 x1 nm2
        have prx : PRO u x := PRO_P (PRO_cs b0) x1.1
        have ff : f ≤ f2 := x4.2.2.2.2.2.2.2.1
        have x52 : F x 52 = ((g + 1 : Nat) : Int) := by rw [show F x 52 = F (cs v) 52 from x1.1.F (by decide), cs_F (by decide)]; exact b3
        have xr : ∀ r i, r ∉ PfA → r ≠ 60 ∧ r ≠ 63 ∧ r ≠ 64 → A x r i = A v r i := fun r i hr h6 => by rw [show A x r i = A (cs v) r i from x1.1.A hr, cs_A h6]
        have x14 : F x 14 = F v 14 := by rw [show F x 14 = F (cs v) 14 from x1.1.F (by decide), cs_F (by decide)]
        have s63 := (x1.2.2.2.1 0 (Nat.le_refl 0)).2.2.1 rfl
        have x71 := x1.2.2.1.1
        have go : ∀ y : MS, PRO u y → F y 67 = 0 → PGN TN bw y p2 n2 q2 c2 f2 h2 → F y 52 = ((g + 1 : Nat) : Int) → (0 ≤ A y 47 g ∧ A y 47 g < F y 14) → FTY TN SN g (k + 1) c y → OK (fun x _ => FNQ TN SN bw u x (g + 1) ∨ FLT TN u x) (tk7 N (gg_M_function0 N m') (I g) (I c) y) := fun y y1 y2 y3 y4 y5 y6 => by
          have y69 : F y 69 = p2 := y3.1.1
          unfold tk7
          refine k_takeSign (s := 7) rfl ⟨by decide, by decide⟩ (by omega) (fun _ z => ?_) (fun _ => ?_)
          · have z6 : A y 6 p2.toNat = 6 := by have := z.1; rw [y69] at this; exact this
            have tky := TKW_pro tk y1
            have ltp2 := tok_lt tky (by omega) (show ¬ (A y 6 p2.toNat = 0 ∨ A y 6 p2.toNat = 7) by omega)
            have d2 := DLT_1 (n := n2) (q := q2) (c := c2) (f := f2) (h := h2) (m := 0) tky ⟨by omega, ltp2⟩ (by omega)
            rw [show n2 + 0 = n2 by omega] at d2
            have nm3 := NM_dlt tky nm2 d2 (by omega) (by omega) (by omega)
            have nF : ∀ t, t ≠ 69 → F (nx1 y) t = F y t := fun t ht => wi_ne ht
            refine ih (nx1 y) (k + 1) c (p2 + 1) n2 q2 c2 f2 h2 ⟨FR.wi y1 (by decide), (nF 67 (by decide)).trans y2, ?_, (nF 52 (by decide)).trans y4, fun z => by omega, fun _ => ⟨by omega, y5.1, by rw [nF 14 (by decide)]; exact y5.2⟩, ⟨by omega, by omega, fun _ => by omega⟩, fun z1 z2 z3 => ?_⟩ (by omega) m' (by omega)
            · obtain ⟨⟨g1, g2, g3, g4, g5, g6, g7, g8, g9, g10, g11⟩, ⟨g12, g13⟩, g14, g15, g16, -⟩ := y3
              refine ⟨⟨?_, (nF 70 (by decide)).trans g2, (nF 32 (by decide)).trans g3, (nF 39 (by decide)).trans g4, (nF 46 (by decide)).trans g5, (nF 56 (by decide)).trans g6, (nF 58 (by decide)).trans g7, (nF 75 (by decide)).trans g8, (nF 77 (by decide)).trans g9, (nF 83 (by decide)).trans g10, (nF 73 (by decide)).trans g11⟩, ⟨by rw [nF 71 (by decide)]; exact g12, by rw [nF 66 (by decide)]; exact g13⟩, g14, fun j hj => ?_, g16, nm3⟩
              · unfold nx1; rw [wi_eq ⟨by omega, by omega⟩, g1]
              · rw [nF 32 (by decide)] at hj
                rw [nF 14 (by decide)]; exact g15 j hj
            · obtain ⟨Bd, q1, many, q2, q3⟩ := y6 (by rw [← nF 72 (by decide)]; exact z1) (by rw [← nF 66 (by decide)]; exact z2) z3
              have en : EQY y (nx1 y) := EQY_fr (is := [69]) (as := []) (js := []) (FR.wi FR.rf (by decide)) (by decide) (by decide)
              have mn : mks (nx1 y) = mks y := wi_mks (by decide)
              obtain ⟨μ, rr, mm', X', Y', ch, ⟨q0, qk⟩, -⟩ := id q2
              have le : ∀ j, Bd g j ≤ mks y j := fun j => by
                have := CHD_le ch (k + 1) 0 (by omega) j
                rw [Nat.zero_add, q0, qk] at this
                exact this
              exact ⟨Bd, FNT_eqy (y := 0) (i0 := 0) q1 en le (Or.inl rfl) (fun f hf => ⟨rfl, rfl⟩), many, FCY_eqy q2 en mn, q3⟩
          · obtain ⟨m2, rfl⟩ : ∃ m2, m' = m2 + 1 := ⟨m' - 1, by omega⟩
            show OK _ (fb_M_function0_36 N (gg_M_function0 N m2) y (I g) (I c) 0)
            unfold fb_M_function0_36
            rw [br00]
            refine f228_ok hN (by omega) (TBL_pro tb y1) (ATM_pro at' y1) y5 y3.2.2.2.2.1 (by omega) y3.2.1.1 (by omega) (fun _ z => ?_) (fun w h3 h4 => Or.inr (FLT_pg y1 y3 h3 h4))
            have z6 : A y 6 p2.toNat = 6 := by have := z.1; rw [y69] at this; exact this
            have tky := TKW_pro tk y1
            have ltp2 := tok_lt tky (by omega) (show ¬ (A y 6 p2.toNat = 0 ∨ A y 6 p2.toNat = 7) by omega)
            have d2 := DLT_1 (n := n2) (q := q2) (c := c2) (f := f2) (h := h2) (m := 0) tky ⟨by omega, ltp2⟩ (by omega)
            rw [show n2 + 0 = n2 by omega] at d2
            have nm3 := NM_dlt tky nm2 d2 (by omega) (by omega) (by omega)
            have nF : ∀ t, t ≠ 69 → F (nx1 y) t = F y t := fun t ht => wi_ne ht
            have pgn : PGN TN bw (nx1 y) (p2 + 1) n2 q2 c2 f2 h2 := by
              obtain ⟨⟨g1, g2, g3, g4, g5, g6, g7, g8, g9, g10, g11⟩, ⟨g12, g13⟩, g14, g15, g16, -⟩ := y3
              refine ⟨⟨?_, (nF 70 (by decide)).trans g2, (nF 32 (by decide)).trans g3, (nF 39 (by decide)).trans g4, (nF 46 (by decide)).trans g5, (nF 56 (by decide)).trans g6, (nF 58 (by decide)).trans g7, (nF 75 (by decide)).trans g8, (nF 77 (by decide)).trans g9, (nF 83 (by decide)).trans g10, (nF 73 (by decide)).trans g11⟩, ⟨by rw [nF 71 (by decide)]; exact g12, by rw [nF 66 (by decide)]; exact g13⟩, g14, fun j hj => ?_, g16, nm3⟩
              · unfold nx1; rw [wi_eq ⟨by omega, by omega⟩, g1]
              · rw [nF 32 (by decide)] at hj
                rw [nF 14 (by decide)]; exact g15 j hj
            have prn : PRO u (nx1 y) := FR.wi y1 (by decide)
            have en : EQY y (nx1 y) := EQY_fr (is := [69]) (as := []) (js := []) (FR.wi FR.rf (by decide)) (by decide) (by decide)
            have mn : mks (nx1 y) = mks y := wi_mks (by decide)
            refine ⟨Or.inl ⟨prn, (nF 67 (by decide)).trans y2, ⟨p2 + 1, n2, q2, c2, f2, h2, pgn, by omega, by omega⟩, (nF 52 (by decide)).trans y4, FNT_add y6 (by omega) en mn (fun z => by rw [← nF 72 (by decide)]; exact z) (fun z => by rw [← nF 66 (by decide)]; exact z) (fun f hf => ⟨rfl, rfl⟩)⟩, fun w g1 g2 g3 => Or.inl ?_⟩
            refine ⟨FR.tr prn (FR.mo g1 (by decide) (by decide) (by decide) (by decide)), by rw [g1.F (by decide)]; exact (nF 67 (by decide)).trans y2, ⟨p2 + 1, n2, q2, c2, f2, h2, PGN_rule pgn g1 g3, by omega, by omega⟩, by rw [g1.F (by decide)]; exact (nF 52 (by decide)).trans y4, fun z => absurd z g2⟩
        refine fnC_ok (by omega) (by omega) (by omega) hl x71 (fun z y => ?_) (fun z zz y => ?_) (fun z w g1 g2 g3 y => ?_)
        · have fr : FR [] [] [47, 48, 50, 51] [] x (wa (wa (wa (wa x 47 g (A x 7 p.toNat)) 48 g (A x 41 c.toNat)) 50 g c) 51 g y) := FR.wa (FR.wa (FR.wa (FR.wa FR.rf (by decide)) (by decide)) (by decide)) (by decide)
          have k0 := lk.1 z
          have rc : RG c := ⟨by omega, by omega⟩
          have y47 : A (wa (wa (wa (wa x 47 g (A x 7 p.toNat)) 48 g (A x 41 c.toNat)) 50 g c) 51 g y) 47 g = A x 7 p.toNat := by rw [wa_rne (by decide), wa_rne (by decide), wa_rne (by decide)]; exact wa_eq (ARG1 _ _ _)
          have y48 : A (wa (wa (wa (wa x 47 g (A x 7 p.toNat)) 48 g (A x 41 c.toNat)) 50 g c) 51 g y) 48 g = A x 41 c.toNat := by rw [wa_rne (by decide), wa_rne (by decide)]; exact wa_eq (ARG1 _ _ _)
          have y50 : A (wa (wa (wa (wa x 47 g (A x 7 p.toNat)) 48 g (A x 41 c.toNat)) 50 g c) 51 g y) 50 g = c := by rw [wa_rne (by decide)]; exact wa_eq rc
          have yo : ∀ r i, i ≠ g → A (wa (wa (wa (wa x 47 g (A x 7 p.toNat)) 48 g (A x 41 c.toNat)) 50 g c) 51 g y) r i = A x r i := fun r i hi => by rw [wa_ne hi, wa_ne hi, wa_ne hi, wa_ne hi]
          generalize wa (wa (wa (wa x 47 g (A x 7 p.toNat)) 48 g (A x 41 c.toNat)) 50 g c) 51 g y = Y at *
          have yF : ∀ t, F Y t = F x t := fun t => fr.F (by intro z; cases z)
          refine go Y (FR.tr prx (FR.mo fr (by decide) (by decide) (by decide) (by decide))) ((yF 67).trans x0) (PGN_fr pgx fr (by decide) (by decide)) ((yF 52).trans x52) ?_ ?_
          · rw [y47, yF, x14, xr 7 _ (by decide) (by decide)]; exact at7
          · exact FTY_add (w := x) (p2 := p2) b9 b4 ⟨e5, by omega, by omega⟩ x2 x8 s63 ⟨hp0, x3⟩ (Or.inl ⟨k0, rfl⟩) (fun z => by omega) (fun j => ⟨xr 48 j (by decide) (by decide), xr 50 j (by decide) (by decide)⟩) (EQY_fr fr (by decide) (by decide)) (mks_c (fun t _ => yF t)) (fun j hj => ⟨yo 48 j (by omega), yo 50 j (by omega)⟩) ⟨fun _ => ⟨y48, y50⟩, fun z => by omega⟩ (fun z => by rw [← yF]; exact z) (fun z => by rw [← yF]; exact z)
        · have k0 := lk.2 z
          have fr : FR [] [] [45, 51] [] x (wa (wa x 45 l.toNat c) 51 g y) := FR.wa (FR.wa FR.rf (by decide)) (by decide)
          have fr2 : FR [] [] [51] [] (wa x 45 l.toNat c) (wa (wa x 45 l.toNat c) 51 g y) := FR.wa FR.rf (by decide)
          generalize wa (wa x 45 l.toNat c) 51 g y = Y at *
          have yF : ∀ t, F Y t = F x t := fun t => fr.F (by intro z; cases z)
          refine go Y (FR.tr prx (FR.mo fr (by decide) (by decide) (by decide) (by decide))) ((yF 67).trans x0) (PGN_fr pgx fr (by decide) (by decide)) ((yF 52).trans x52) ?_ ?_
          · rw [fr.A (by decide), yF, x14, xr 47 _ (by decide) (by decide)]; exact (b5 k0).2
          · exact FTY_add (w := wa x 45 l.toNat c) (p2 := p2) b9 b4 ⟨e5, by omega, by omega⟩ x2 x8 s63 ⟨hp0, x3⟩ (Or.inr ⟨k0, rfl⟩) (fun _ => zz) (fun j => ⟨xr 48 j (by decide) (by decide), xr 50 j (by decide) (by decide)⟩) (EQY_fr fr2 (by decide) (by decide)) (mks_c (fun t _ => by rw [yF, F_wa])) (fun j hj => ⟨fr2.A (by decide), fr2.A (by decide)⟩) ⟨fun z => by omega, fun _ => ⟨fr2.A (by decide), fr2.A (by decide)⟩⟩ (fun z => by rw [← yF]; exact z) (fun z => by rw [← yF]; exact z)
        · have k0 := lk.2 z
          have fr0 : FR [] [] [45] [] x (wa x 45 l.toNat c) := FR.wa FR.rf (by decide)
          have fr2 : FR [] [] [51] [] w (wa w 51 g y) := FR.wa FR.rf (by decide)
          have pg2 := PGN_fr (PGN_rule (PGN_fr pgx fr0 (by decide) (by decide)) g1 g3) fr2 (by decide) (by decide)
          generalize wa w 51 g y = Y at *
          have yF : ∀ t, t ≠ 71 → t ≠ 72 → F Y t = F x t := fun t h1 h2 => by rw [fr2.F (by intro z; cases z), g1.F (by simp; exact ⟨h1, h2⟩), F_wa]
          refine go Y (FR.tr (FR.tr (FR.tr prx (FR.mo fr0 (by decide) (by decide) (by decide) (by decide))) (FR.mo g1 (by decide) (by decide) (by decide) (by decide))) (FR.mo fr2 (by decide) (by decide) (by decide) (by decide))) ((yF 67 (by decide) (by decide)).trans x0) pg2 ((yF 52 (by decide) (by decide)).trans x52) ?_ (fun z1 => absurd ((fr2.F (by intro z; cases z)).symm.trans z1) g2)
          rw [fr2.A (by decide), g1.A (by intro z; cases z), wa_rne (by decide), yF 14 (by decide) (by decide), x14, xr 47 _ (by decide) (by decide)]
          exact (b5 k0).2
      · have fx := FLT_of b0 k49 hx
        have hxr : FR PfI [] PfA [34] (cs v) x := hx.1
        have xr : ∀ r i, r ∉ PfA → r ≠ 60 ∧ r ≠ 63 ∧ r ≠ 64 → A x r i = A v r i := fun r i hr h6 => by rw [hxr.A hr, cs_A h6]
        have x14 : F x 14 = F v 14 := by rw [hxr.F (by decide), cs_F (by decide)]
        have x71 := fx.2.2.1
        refine fnC_ok (by omega) (by omega) (by omega) hl (by omega) (fun z y => ?_) (fun z zz y => ?_) (fun z w g1 g2 g3 y => ?_)
        · have fr : FR [] [] [47, 48, 50, 51] [] x (wa (wa (wa (wa x 47 g (A x 7 p.toNat)) 48 g (A x 41 c.toNat)) 50 g c) 51 g y) := FR.wa (FR.wa (FR.wa (FR.wa FR.rf (by decide)) (by decide)) (by decide)) (by decide)
          refine tk7_F hN hT (by omega) tb at' (FLT_fr fx fr (by decide) (by decide)) ?_ (by omega)
          rw [wa_rne (by decide), wa_rne (by decide), wa_rne (by decide), wa_eq (ARG1 _ _ _), F_wa, F_wa, F_wa, F_wa, x14, xr 7 _ (by decide) (by decide)]; exact at7
        · have k0 := lk.2 z
          have fr : FR [] [] [45, 51] [] x (wa (wa x 45 l.toNat c) 51 g y) := FR.wa (FR.wa FR.rf (by decide)) (by decide)
          refine tk7_F hN hT (by omega) tb at' (FLT_fr fx fr (by decide) (by decide)) ?_ (by omega)
          rw [wa_rne (by decide), wa_rne (by decide), F_wa, F_wa, x14, xr 47 _ (by decide) (by decide)]
          exact (b5 k0).2
        · have k0 := lk.2 z
          have fr0 : FR [] [] [45] [] x (wa x 45 l.toNat c) := FR.wa FR.rf (by decide)
          have fr2 : FR [] [] [51] [] w (wa w 51 g y) := FR.wa FR.rf (by decide)
          refine tk7_F hN hT (by omega) tb at' (FLT_fr (FLT_rule (FLT_fr fx fr0 (by decide) (by decide)) g1 g3) fr2 (by decide) (by decide)) ?_ (by omega)
          rw [wa_rne (by decide), g1.A (by intro z; cases z), wa_rne (by decide), F_wa, g1.F (by decide), F_wa, x14, xr 47 _ (by decide) (by decide)]
          exact (b5 k0).2
    · refine k_wrong (s := 2) rfl ⟨by decide, by decide⟩ (by decide) (by omega) (fun w h1 h2 => ok_some.mpr (Or.inr (FLT_pg b0 b2 h1 h2)))
end
end
section
section
variable {u v w x : MS} {N TN SN g : Nat} {bw : Nat → Nat} {p n q c f h y : Int}
theorem PGN_49 {i : Nat} (hv : PGN TN bw v p n q c f h) (hy : 0 ≤ y ∧ y < 4002) : PGN TN bw (wa v 49 i y) p n q c f h := by
  obtain ⟨e, e2, k44, ngd, k49, nm⟩ := hv
  have ry : RG y := ⟨by omega, by omega⟩
  refine ⟨e, e2, fun j => by rw [wa_rne (by decide)]; exact k44 j, fun j hj => ?_, fun j => ?_, nm⟩
  · rw [wa_rne (by decide), wa_rne (by decide), wa_rne (by decide)]; exact ngd j hj
  · by_cases z : j = i
    · rw [z, wa_eq ry]; exact hy
    · rw [wa_ne z]; exact k49 j
theorem function0_ok (tk : TKW u TN SN bw) (hN : 20000 ≤ N) (tb : TBL u) (at' : ATM u) (hv : FNQ TN SN bw u v g) : OK (fun x _ => FNQ TN SN bw u x (g + 1) ∨ FLT TN u x) (fm_M_function0 N v) := by
  have hT := tk.1.1
  obtain ⟨b0, b1, ⟨p, n, q, c, f, h, b2, b3, b4⟩, b5, b6⟩ := hv
  have hp0 : 0 ≤ p := b2.2.2.2.2.2.1.1
  have hg : g < 700 := by omega
  unfold fm_M_function0 fb_M_function0_0
  have e52 : v.1 52 + 1 = I ((g + 1 : Nat) : Int) := by rw [I_F' b5, lit1q, I_add]; rfl
  have z0 : ∀ (w : MS) (k i : Nat), upA w k (upd (w.2.2.1 k) i 0) = wa w k i 0 := fun _ _ _ => rfl
  have eg : (I ((g : Nat) : Int)).toNatClampNeg = g := by rw [I_tn (by omega) (by omega)]; omega
  rw [e52, I_F' b5, wi_e]
  have e69 : F (wi v 52 ((g + 1 : Nat) : Int)) 69 = p := (wi_ne (by decide)).trans b2.1.1
  refine ok_lt.mpr (k_in (k := 49) (n := 1000) rfl (by decide) (by omega) (ok_lt.mpr (k_in (k := 51) (n := 1000) rfl (by decide) (by omega) (ok_lt.mpr ?_))))
  rw [eg, I_F' e69, wa_e, z0]
  have fr1 : FR [52] [] [] [] v (wi v 52 ((g + 1 : Nat) : Int)) := FR.wi FR.rf (by decide)
  have pg1 : PGN TN bw (wi v 52 ((g + 1 : Nat) : Int)) p n q c f h := PGN_fr b2 fr1 (by decide) (by decide)
  have pg2 := PGN_49 (i := g) (y := p) pg1 (by omega)
  have fr3 : FR [] [] [51] [] (wa (wi v 52 ((g + 1 : Nat) : Int)) 49 g p) (wa (wa (wi v 52 ((g + 1 : Nat) : Int)) 49 g p) 51 g 0) := FR.wa FR.rf (by decide)
  have pg3 := PGN_fr pg2 fr3 (by decide) (by decide)
  have fr : FR [52] [] [49, 51] [] v (wa (wa (wi v 52 ((g + 1 : Nat) : Int)) 49 g p) 51 g 0) := FR.wa (FR.wa (FR.wi FR.rf (by decide)) (by decide)) (by decide)
  have f52 : F (wa (wa (wi v 52 ((g + 1 : Nat) : Int)) 49 g p) 51 g 0) 52 = ((g + 1 : Nat) : Int) := by rw [F_wa, F_wa]; exact wi_eq ⟨by omega, by omega⟩
  generalize wa (wa (wi v 52 ((g + 1 : Nat) : Int)) 49 g p) 51 g 0 = W at *
  have m1 : (-1 : Int32) = I (-1) := rfl
  rw [m1]
  refine fn_loop tk hN tb at' 4100 W 0 (-1) p n q c f h ⟨FR.tr b0 (FR.mo fr (by decide) (by decide) (by decide) (by decide)), (fr.F (by decide)).trans b1, pg3, f52, fun _ => rfl, fun z => by omega, ⟨b3, b4, fun z => by omega⟩, fun z1 z2 z3 => ?_⟩ (by omega) N (by omega)
  obtain ⟨Bd, q1, q2⟩ := b6 (by rw [← fr.F (k := 72) (by decide)]; exact z1) (by rw [← fr.F (k := 66) (by decide)]; exact z2) z3
  have ey : EQY v W := EQY_fr fr (by decide) (by decide)
  have my : mks W = mks v := mks_c (fun k hk => fr.F (by
    have : ∀ k, k ∈ [32, 39, 46, 56, 58] → k ∉ [52] := by decide
    exact this k hk))
  refine ⟨Bd, FNT_eqy (y := 0) (i0 := 0) q1 ey (fun i => by rw [q2]; exact Nat.le_refl _) (Or.inl rfl) (fun f _ => ⟨fr.A (by decide), fr.A (by decide)⟩), 0, ⟨fun _ => mks W, fun _ => 0, 0, 0, 0, ⟨fun j hj => by omega, fun j hj => by omega, fun z => by omega⟩, ⟨by rw [q2, my], rfl⟩, fun j hj => by omega, fun z => by omega, by omega, by omega, by omega⟩, fun z => by omega⟩
def PRQ (TN SN : Nat) (bw : Nat → Nat) (u x : MS) : Prop := (∃ G : Nat, 0 < G ∧ FNQ TN SN bw u x G ∧ x.2.2.1 6 (x.1 69).toNatClampNeg = 0) ∨ FLT TN u x
theorem program_loop (tk : TKW u TN SN bw) (hN : 20000 ≤ N) (tb : TBL u) (at' : ATM u) : ∀ (i : Nat) (v : MS) (g : Nat), FNQ TN SN bw u v g → 700 < i + g → OK (fun x _ => PRQ TN SN bw u x) (gg_M_program N (i + 1) v 1) := by
  have hT := tk.1.1
  have stop : ∀ (m : Nat) (w : MS), gg_M_program N (m + 1) w 0 = some (w, ()) := fun m w => rfl
  intro i
  induction i with
  | zero =>
    intro v g hv hi
    obtain ⟨b0, b1, ⟨p, n, q, c, f, h, b2, b3, b4⟩, b5, b6⟩ := hv
    omega
  | succ i ih =>
    intro v g hv hi
    show OK _ (fb_M_program_52 N (gg_M_program N (i + 1)) v 1)
    unfold fb_M_program_52 fb_M_program_95 fb_M_program_90 fb_M_program_91
    rw [br10]
    refine k_F (y := 0) rfl ⟨by decide, by decide⟩ (fun _ => ?_) (fun z => absurd hv.2.1 z)
    refine ok_bnd.mpr (ok_mono (function0_ok tk hN tb at' hv) (fun x _ hx => ?_))
    rcases hx with hx | hx
    · have hx' := hx
      obtain ⟨b0, b1, ⟨p, n, q, c, f, h, b2, b3, b4⟩, b5, b6⟩ := hx'
      have hp0 : 0 ≤ p := b2.2.2.2.2.2.1.1
      have e69 : F x 69 = p := b2.1.1
      refine k_F (y := 0) rfl ⟨by decide, by decide⟩ (fun _ => ?_) (fun z => absurd b1 z)
      refine k_at (k := 6) (n := 4002) rfl (by decide) (by omega) (ok_br.mpr ⟨fun z6 => ?_, fun _ => ?_⟩)
      · rw [stop]; exact ok_some.mpr (Or.inl ⟨_, Nat.succ_pos _, hx, of_decide_eq_true z6⟩)
      · exact ih x (g + 1) hx (by omega)
    · refine k_F (y := 0) rfl ⟨by decide, by decide⟩ (fun z => absurd z hx.2.1) (fun _ => ?_)
      rw [stop]; exact ok_some.mpr (Or.inr hx)
def prS (u : MS) : MS := wi (wi (wi (wi (wi (wi (wi (wi (wi (wi u 69 0) 70 0) 32 0) 39 0) 46 0) 52 0) 56 0) 58 0) 66 0) 73 0
theorem prS_F {k : Nat} (h : k ∉ [69, 70, 32, 39, 46, 52, 56, 58, 66, 73]) : F (prS u) k = F u k := by
  unfold prS
  simp only [List.mem_cons, List.not_mem_nil, or_false, not_or] at h
  obtain ⟨h1, h2, h3, h4, h5, h6, h7, h8, h9, h10⟩ := h
  rw [wi_ne h10, wi_ne h9, wi_ne h8, wi_ne h7, wi_ne h6, wi_ne h5, wi_ne h4, wi_ne h3, wi_ne h2, wi_ne h1]
theorem prS_0 {k : Nat} (h : k ∈ [69, 70, 32, 39, 46, 52, 56, 58, 66, 73]) : F (prS u) k = 0 := by
  have m : ∀ k, k ∈ [69, 70, 32, 39, 46, 52, 56, 58, 66, 73] → k = 69 ∨ k = 70 ∨ k = 32 ∨ k = 39 ∨ k = 46 ∨ k = 52 ∨ k = 56 ∨ k = 58 ∨ k = 66 ∨ k = 73 := by decide
  rcases m k h with z | z | z | z | z | z | z | z | z | z <;> (rw [z]; rfl)
theorem prS_FR : FR PfJ [] [] [] u (prS u) := by
  unfold prS
  exact FR.wi (FR.wi (FR.wi (FR.wi (FR.wi (FR.wi (FR.wi (FR.wi (FR.wi (FR.wi FR.rf (by decide)) (by decide)) (by decide)) (by decide)) (by decide)) (by decide)) (by decide)) (by decide)) (by decide)) (by decide)
theorem program_ok (hN : 20000 ≤ N) (hT : TN ≤ 4000) (tk : F u 67 = 0 → TKW u TN SN bw) (tb : TBL u) (at' : ATM u) (h0 : F u 75 = 0 ∧ F u 77 = 0 ∧ F u 83 = 0) (h71 : 0 ≤ F u 71 ∧ F u 71 < 4002) (k44 : K44 u) (k49 : K49 u) : OK (fun x _ => PRQ TN SN bw u x) (fm_M_program N u) := by
  unfold fm_M_program fb_M_program_0
  refine ok_lt.mpr (ok_lt.mpr (ok_lt.mpr (ok_lt.mpr (ok_lt.mpr (ok_lt.mpr (ok_lt.mpr (ok_lt.mpr (ok_lt.mpr (ok_lt.mpr ?_)))))))))
  show OK _ (gg_M_program N N (prS u) 1)
  have pr : PRO u (prS u) := FR.mo prS_FR (by decide) (by decide) (by decide) (by decide)
  have pA : ∀ r i, A (prS u) r i = A u r i := fun _ _ => rfl
  by_cases z : F u 67 = 0
  · have tku := tk z
    have b0 := bw_top tku (i := 0) (by omega)
    obtain ⟨N', rfl⟩ : ∃ N', N = N' + 1 := ⟨N - 1, by omega⟩
    refine program_loop tku hN tb at' N' (prS u) 0 ⟨pr, (prS_F (by decide)).trans z, ⟨0, 0, 0, 0, 0, 0, ⟨⟨prS_0 (by decide), prS_0 (by decide), prS_0 (by decide), prS_0 (by decide), prS_0 (by decide), prS_0 (by decide), prS_0 (by decide), (prS_F (by decide)).trans h0.1, (prS_F (by decide)).trans h0.2.1, (prS_F (by decide)).trans h0.2.2, prS_0 (by decide)⟩, ⟨by rw [prS_F (by decide)]; exact h71, Or.inl (prS_0 (by decide))⟩, k44, fun i hi => ?_, k49, ?_⟩, by omega, by omega⟩, prS_0 (by decide), fun _ _ _ => ⟨fun _ _ => 0, ⟨fun _ => rfl, fun f hf => by omega⟩, ?_⟩⟩ (by omega)
    · rw [prS_0 (by decide)] at hi; omega
    · unfold NM
      have : (0 : Int).toNat = 0 := rfl
      rw [this]
      omega
    · funext i
      unfold mks
      rw [prS_0]
      · rfl
      · split
        · decide
        · split
          · decide
          · split
            · decide
            · split
              · decide
              · decide
  · obtain ⟨N', rfl⟩ : ∃ N', N = N' + 1 := ⟨N - 1, by omega⟩
    show OK _ (fb_M_program_52 (N' + 1) (gg_M_program (N' + 1) N') (prS u) 1)
    unfold fb_M_program_52 fb_M_program_95
    rw [br10]
    have z' : F (prS u) 67 ≠ 0 := by rw [prS_F (by decide)]; exact z
    refine k_F (y := 0) rfl ⟨by decide, by decide⟩ (fun y => absurd y z') (fun _ => ok_some.mpr (Or.inr ⟨pr, z', ⟨?_, ?_, ?_, ?_⟩, k44, k49⟩))
    · rw [prS_0 (by decide)]; omega
    · rw [prS_0 (by decide)]; omega
    · rw [prS_F (by decide)]; exact h71.1
    · rw [prS_F (by decide)]; exact h71.2
end
end
section
def Z0 : Nat → Nat := fun _ => 0
def TEN : Nat → Nat := fun t => if t = 8 then 20000 else 0
section
variable {w : MS} {SN k many G : Nat} {l : Int} {a b : Nat → Nat} {Bd : Nat → Nat → Nat}
theorem KOUT_0 {T : TY} {rk n : Nat} (h : 0 < tK T n) (y : KOUT T Z0 rk n) : False := by
  have : tK T n = 0 := y.2.1
  omega
theorem GOUT_0 {T : TY} {rk m n : Nat} (h : tG T n ≠ 0) (y : GOUT w T Z0 rk m n) : False := h y.2.2.2.2.1
theorem fn_types (h : FCY SN a b w k many l) (hk : 0 < k) (hb : b 0 - a 0 ≤ 15000) (T0 : Nat → Nat) : ∃ (T : TY) (C : CY) (r : Nat), FRG w T C Z0 1 0 a b SN (fun _ => False) (fun _ => False) ∧ (∀ t, t ≤ 8 → T t (b 0) = T0 t) ∧ (cH C (a 1) = many ∧ cB C (a 1) = 0 ∧ cM C (a 1) = 0 ∧ cL C (a 1) = 0 ∧ cK C (a 1) = 0 ∧ cC C (a 1) = 0 ∧ cR C (a 1) = r) ∧ (A w 41 (a 1) = ((many : Nat) : Int) ∧ many ≤ 6 ∧ a 1 < b 1) ∧ (A w 23 (b 0 - 1) = 29 ∧ a 0 < b 0) := by
  obtain ⟨μ, rr, mm, X, Y, ch, ⟨m0, mk⟩, hr, -, b1, b2, b3⟩ := h
  have le : ∀ t, a t ≤ b t := fun t => by
    have := CHD_le ch k 0 (by omega) t
    rw [Nat.zero_add, m0, mk] at this
    exact this
  have p0 := ch.1 0 hk
  have pm : A w 41 (a 1) = ((many : Nat) : Int) ∧ many ≤ 6 := by
    obtain ⟨_, _, _, _, _, _, -, q, -⟩ := p0
    rw [m0] at q
    exact ⟨q.1, q.2.1⟩
  obtain ⟨T, C, y1, y2, y3, y5, y4⟩ := chain_ok (hg := many) (hb := 0) (Z := Z0) (rk := 1) (RR := 1 + (μ k 0 - μ 0 0)) T0 ch rfl (fun _ => rfl) (by omega) (by omega) (by show 0 + Y ≤ 26; omega) (Nat.zero_le _) (by show mm + 0 ≤ 40; omega) ⟨Nat.zero_le _, Nat.zero_le _⟩ (Nat.zero_le _) (by omega) (by omega) (by rw [m0, mk]; omega)
  rw [mk] at y5
  have y4' : FRG w T C Z0 1 0 a b SN (CE true k μ) (CS2 k rr) := by rw [← m0, ← mk]; exact y4
  have c0 := y1 0 (by omega) hk
  rw [m0] at c0
  refine ⟨T, C, _, ⟨fun n h1 h2 => ?_, y4'.2.1, y4'.2.2⟩, y5, ⟨c0.1, c0.2.1, c0.2.2.1, c0.2.2.2.1, c0.2.2.2.2.1, c0.2.2.2.2.2.1, c0.2.2.2.2.2.2⟩, ⟨pm.1, pm.2, ?_⟩, ?_, ?_⟩
  · have nd := y4'.1 n h1 h2
    refine NODE_E nd (fun z => by cases z.1) (fun z => Or.inr ?_)
    obtain ⟨j, hj, hn⟩ := z
    have rn := nd.2.2.2.2.2.2.2
    exact ⟨rn.1, Or.inr (Or.inl (by rw [hn]; exact hr j hj))⟩
  · have q := (PTD_le p0).2.2.1
    have q2 := CHD_le ch (k - 1) 1 (by omega) 1
    rw [show 1 + (k - 1) = k by omega, mk] at q2
    rw [m0] at q
    have q3 : μ (0 + 1) 1 = μ 1 1 := rfl
    omega
  · have pl := ch.1 (k - 1) (by omega)
    rw [show k - 1 + 1 = k by omega, mk] at pl
    obtain ⟨mN, mE, p, e, p2, p3, -, -, -, -, ⟨o0, o1, -⟩, fin⟩ := pl
    rcases fin with ⟨-, q⟩ | ⟨q, -⟩
    · rw [show b 0 - 1 = p3 0 by omega]; exact q.1
    · cases q
  · have q := (PTD_le p0).2.1
    have q2 := CHD_le ch (k - 1) 1 (by omega) 0
    rw [show 1 + (k - 1) = k by omega, mk] at q2
    rw [m0] at q
    have q3 : μ (0 + 1) 0 = μ 1 0 := rfl
    omega
theorem CLS_cat {C C1 : CY} {CN CN2 m hg hb mm l k cc r c x : Nat} (e : CLS C1 w CN m hg hb mm l k cc r ((c : Nat) : Int)) (hc : ∀ t, C t c = C1 t c) (hn : CN ≤ CN2) : CLS C w CN2 m hg hb mm l k cc r ((c : Nat) : Int) := CLS_eq e hc hn
set_option maxRecDepth 100000 in
theorem all_types (h : FNT w SN G Bd) (hn : Bd G 0 ≤ 15000) : ∀ d f, f + d = G → ∃ (T : TY) (C : CY), FRG w T C Z0 1 0 (Bd f) (Bd G) SN (fun _ => False) (fun _ => False) ∧ (∀ t, t ≤ 8 → T t (Bd G 0) = TEN t) ∧ (∀ i, Bd f i ≤ Bd G i) ∧ (f < G → A w 23 (Bd G 0 - 1) = 29 ∧ Bd f 0 < Bd G 0) ∧ ∀ f', f ≤ f' → f' < G → ∃ a r : Nat, A w 48 f' = ((a : Nat) : Int) ∧ a ≤ 6 ∧ Bd f 1 ≤ Bd f' 1 ∧ A w 50 f' = ((Bd f' 1 : Nat) : Int) ∧ CLS C w (Bd G 1) a a 0 0 0 0 0 r ((Bd f' 1 : Nat) : Int) := by
  intro d
  induction d with
  | zero =>
    intro f hf
    obtain rfl : f = G := by omega
    exact ⟨fun t _ => TEN t, fun _ _ => 0, ⟨fun n h1 h2 => by omega, fun n h1 h2 => by omega, fun n h1 h2 => by omega⟩, fun _ _ => rfl, fun _ => Nat.le_refl _, fun z => by omega, fun f' h1 h2 => by omega⟩
  | succ d ih =>
    intro f hf
    obtain ⟨T1, C1, v1, v2, v3, v4, v5⟩ := ih (f + 1) (by omega)
    obtain ⟨u1, many, k, l, u2, u3, u4, u5⟩ := h.2 f (by omega)
    have v30 := v3 0
    have v31 := v3 1
    have u10 := u1 0
    have u11 := u1 1
    have u13 := u1 3
    have v33 := v3 3
    obtain ⟨T2, C2, r, w1, w2, w3, w4, w5, w6⟩ := fn_types u5 u2 (by omega) (fun t => T1 t (Bd (f + 1) 0))
    have le : ∀ i, Bd f i ≤ Bd G i := fun i => Nat.le_trans (u1 i) (v3 i)
    have eL : ∀ t n, t ≤ 8 → Bd f 0 ≤ n → n ≤ Bd (f + 1) 0 → cat (Bd (f + 1) 0) T2 T1 t n = T2 t n := fun t n ht h1 h2 => by
      rcases Nat.lt_or_ge n (Bd (f + 1) 0) with z | z
      · exact cat_l z
      · obtain rfl : n = Bd (f + 1) 0 := by omega
        rw [cat_r (Nat.le_refl _), w2 t ht]
    have eR : ∀ t n, Bd (f + 1) 0 ≤ n → cat (Bd (f + 1) 0) T2 T1 t n = T1 t n := fun t n h1 => cat_r h1
    have gL : ∀ t n, n < Bd (f + 1) 1 → cat (Bd (f + 1) 1) C2 C1 t n = C2 t n := fun t n h1 => cat_l h1
    have gR : ∀ t n, Bd (f + 1) 1 ≤ n → cat (Bd (f + 1) 1) C2 C1 t n = C1 t n := fun t n h1 => cat_r h1
    have A1 := FRG_tr (T := cat (Bd (f + 1) 0) T2 T1) (C := cat (Bd (f + 1) 1) C2 C1) (a2 := Bd f) (b2 := Bd G) (Z := Z0) (rk := 1) (m := 0) (E := fun _ => False) (S := fun _ => False) w1 (fun _ => Nat.le_refl _) v3 eL (fun t c _ h2 => gL t c h2) (fun n h1 h2 y0 y => (KOUT_0 y0 y).elim) (fun n h1 h2 y0 y => (GOUT_0 y0 y).elim) (fun _ => id) (fun _ => id)
    have A2 := FRG_tr (T := cat (Bd (f + 1) 0) T2 T1) (C := cat (Bd (f + 1) 1) C2 C1) (a2 := Bd f) (b2 := Bd G) (Z := Z0) (rk := 1) (m := 0) (E := fun _ => False) (S := fun _ => False) v1 u1 (fun _ => Nat.le_refl _) (fun t n _ h1 _ => eR t n h1) (fun t c h1 _ => gR t c h1) (fun n h1 h2 y0 y => (KOUT_0 y0 y).elim) (fun n h1 h2 y0 y => (GOUT_0 y0 y).elim) (fun _ => id) (fun _ => id)
    refine ⟨cat (Bd (f + 1) 0) T2 T1, cat (Bd (f + 1) 1) C2 C1, ⟨fun n h1 h2 => ?_, fun n h1 h2 => ?_, fun n h1 h2 => ?_⟩, fun t ht => by rw [eR t _ v30]; exact v2 t ht, le, fun _ => ?_, fun f' h1 h2 => ?_⟩
    · rcases Nat.lt_or_ge n (Bd (f + 1) 0) with z | z
      · exact A1.1 n h1 z
      · exact A2.1 n z h2
    · rcases Nat.lt_or_ge n (Bd (f + 1) 1) with z | z
      · exact A1.2.1 n h1 z
      · exact A2.2.1 n z h2
    · rcases Nat.lt_or_ge n (Bd (f + 1) 3) with z | z
      · exact A1.2.2 n h1 z
      · exact A2.2.2 n z h2
    · rcases Nat.lt_or_ge (f + 1) G with z | z
      · have := v4 z
        exact ⟨this.1, by omega⟩
      · have e : f + 1 = G := by omega
        rw [e] at w5 w6
        exact ⟨w5, w6⟩
    · rcases Nat.lt_or_ge f f' with z | z
      · obtain ⟨a, r, q1, q2, q3, q4, q5⟩ := v5 f' (by omega) h2
        exact ⟨a, r, q1, q2, by omega, q4, CLS_eq q5 (fun t => gR t _ q3) (Nat.le_refl _)⟩
      · obtain rfl : f' = f := by omega
        refine ⟨many, r, u3, w4.2.1, Nat.le_refl _, u4, Bd f' 1, rfl, by omega, w4.1, ?_⟩
        have q : ∀ t, cat (Bd (f' + 1) 1) C2 C1 t (Bd f' 1) = C2 t (Bd f' 1) := fun t => gL t _ w4.2.2
        unfold cH cB cM cL cK cC cR at w3 ⊢
        rw [q, q, q, q, q, q, q]
        exact w3
end
end
section
section
variable {Q : MS → Unit → Prop} {u v w x : MS} {N G : Nat} {v1 v2 : Int32}
def FOR (u : MS) (G : Nat) (v2 : Int32) (v : MS) (r : Int32) : Prop := v = u ∧ (r = -1 ∨ ∃ f : Nat, f < G ∧ r = I f ∧ u.2.2.1 48 f = v2)
theorem fo_loop (h52 : F u 52 = ((G : Nat) : Int)) (hG : G ≤ 1000) : ∀ (d i : Nat) (m : Nat), i + d = G → d + 1 ≤ m → OK (FOR u G v2) (gg_M_functionOf N m u v1 v2 (I i)) := by
  intro d
  induction d with
  | zero =>
    intro i m hi hm
    obtain ⟨m', rfl⟩ : ∃ m', m = m' + 1 := ⟨m - 1, by omega⟩
    show OK _ (fb_M_functionOf_2 N (gg_M_functionOf N m') u v1 v2 (I i))
    unfold fb_M_functionOf_2
    rw [I_F' h52]
    exact k_le (x := (G : Int)) (y := (i : Int)) ⟨by omega, by omega⟩ ⟨by omega, by omega⟩ (fun _ => ok_some.mpr ⟨rfl, Or.inl rfl⟩) (fun y => by omega)
  | succ d ih =>
    intro i m hi hm
    obtain ⟨m', rfl⟩ : ∃ m', m = m' + 1 := ⟨m - 1, by omega⟩
    show OK _ (fb_M_functionOf_2 N (gg_M_functionOf N m') u v1 v2 (I i))
    unfold fb_M_functionOf_2 fb_M_functionOf_32
    have e : I (i : Int) + 1 = I ((i + 1 : Nat) : Int) := by rw [lit1q, I_add]; rfl
    have nx := ih (i + 1) m' (by omega) (by omega)
    have ei : (I ((i : Nat) : Int)).toNatClampNeg = i := by rw [I_tn (by omega) (by omega)]; omega
    rw [I_F' h52, e, ei]
    refine k_le (x := (G : Int)) (y := (i : Int)) ⟨by omega, by omega⟩ ⟨by omega, by omega⟩ (fun y => by omega) (fun _ => ?_)
    refine k_in (k := 47) (n := 1000) rfl (by decide) (by omega) (ok_br.mpr ⟨fun _ => ?_, fun _ => nx⟩)
    refine k_in (k := 48) (n := 1000) rfl (by decide) (by omega) (ok_br.mpr ⟨fun z => ?_, fun _ => nx⟩)
    exact ok_some.mpr ⟨rfl, Or.inr ⟨i, by omega, rfl, of_decide_eq_true z⟩⟩
theorem functionOf_ok (hN : 2000 ≤ N) (h52 : F u 52 = ((G : Nat) : Int)) (hG : G ≤ 1000) : OK (FOR u G v2) (fm_M_functionOf N u v1 v2) := by
  unfold fm_M_functionOf fb_M_functionOf_0
  exact fo_loop h52 hG G 0 N (by omega) (by omega)
def CL12 (u w : MS) (G j : Nat) : Prop := A u 23 j = 12 → (∃ k : Nat, k < 30 ∧ A w 27 j = 2000 + k ∧ A u 26 j = ((npre k : Nat) : Int) ∧ (A u 27 j = 1 → 18 ≤ k)) ∨ (A u 27 j ≠ 1 ∧ 0 ≤ A w 27 j ∧ A w 27 j < G ∧ A u 48 (A w 27 j).toNat = A u 26 j)
def CL15 (u w : MS) (G j : Nat) : Prop := A u 23 j = 15 → 0 ≤ A w 27 j ∧ A w 27 j < G
def CLI (u w : MS) (G i : Nat) : Prop := FR [71, 72] [] [27] [] u w ∧ (∀ j, (A u 23 j ≠ 12 ∧ A u 23 j ≠ 15) ∨ i ≤ j → A w 27 j = A u 27 j) ∧ (0 ≤ F w 71 ∧ F w 71 < 4002) ∧ (F w 72 = 0 → F u 72 = 0 ∧ ∀ j, j < i → CL12 u w G j ∧ CL15 u w G j)
theorem CLI_wa {i : Nat} {y : Int} (h : CLI u w G i) (hk : A u 23 i = 12 ∨ A u 23 i = 15) (hx : FR [71, 72] [] [] [] (wa w 27 i y) x) (h71 : 0 ≤ F x 71 ∧ F x 71 < 4002) (ry : RG y) (h72 : F x 72 = 0 → F w 72 = 0 ∧ CL12 u x G i ∧ CL15 u x G i) : CLI u x G (i + 1) := by
  obtain ⟨a1, a2, a3, a4⟩ := h
  have xA : ∀ r j, A x r j = A (wa w 27 i y) r j := fun r j => hx.A (by intro z; cases z)
  refine ⟨FR.tr (FR.wa a1 (by decide)) (FR.mo hx (by decide) (by decide) (by decide) (by decide)), fun j hj => ?_, h71, fun z => ?_⟩
  · have ji : j ≠ i := fun z => by
      rcases hj with q | q
      · rw [z] at q; omega
      · omega
    rw [xA, wa_ne ji]
    exact a2 j (by omega)
  · obtain ⟨b1, b2⟩ := h72 z
    obtain ⟨b3, b4⟩ := a4 b1
    refine ⟨b3, fun j hj => ?_⟩
    by_cases q : j = i
    · rw [q]; exact b2
    · have e : A x 27 j = A w 27 j := by rw [xA, wa_ne q]
      have := b4 j (by omega)
      unfold CL12 CL15 at this ⊢
      rw [e]; exact this
theorem calls_loop (hN : 20000 ≤ N) (tb : TBL u) (at' : ATM u) (h52 : F u 52 = ((G : Nat) : Int)) (hG : G ≤ 1000) (ngd : NGD u u) (h32 : 0 ≤ F u 32 ∧ F u 32 ≤ 15999) : ∀ (d i : Nat) (w : MS) (m : Nat), CLI u w G i → (i : Int) + d = F u 32 → d + 1 ≤ m → OK (fun x _ => CLI u x G (F u 32).toNat) (gg_M_calls N m w (I i)) := by
  intro d
  induction d with
  | zero =>
    intro i w m hw hi hm
    obtain ⟨m', rfl⟩ : ∃ m', m = m' + 1 := ⟨m - 1, by omega⟩
    show OK _ (fb_M_calls_2 N (gg_M_calls N m') w (I i))
    unfold fb_M_calls_2
    have e32 : F w 32 = F u 32 := hw.1.F (by decide)
    rw [I_F' e32]
    refine k_le (x := F u 32) (y := (i : Int)) ⟨by omega, by omega⟩ ⟨by omega, by omega⟩ (fun _ => ok_some.mpr ?_) (fun y => by omega)
    rw [show (F u 32).toNat = i by omega]; exact hw
  | succ d ih =>
    intro i w m hw hi hm
    obtain ⟨m', rfl⟩ : ∃ m', m = m' + 1 := ⟨m - 1, by omega⟩
    obtain ⟨a1, a2, a3, a4⟩ := id hw
    have e32 : F w 32 = F u 32 := a1.F (by decide)
    have e52 : F w 52 = ((G : Nat) : Int) := (a1.F (by decide)).trans h52
    have e14 : F w 14 = F u 14 := a1.F (by decide)
    have wA : ∀ r j, r ≠ 27 → A w r j = A u r j := fun r j hr => a1.A (by simpa using hr)
    have ei : (I ((i : Nat) : Int)).toNatClampNeg = i := by rw [I_tn (by omega) (by omega)]; omega
    have en : I (i : Int) + 1 = I ((i + 1 : Nat) : Int) := by rw [lit1q, I_add]; rfl
    have ng := ngd i (by omega)
    have nx : ∀ x, CLI u x G (i + 1) → OK (fun x _ => CLI u x G (F u 32).toNat) (gg_M_calls N m' x (I ((i + 1 : Nat) : Int))) := fun x hx => ih (i + 1) x m' hx (by omega) (by omega)
    have tbw : TBL w := fun k hk => by rw [wA 2 _ (by decide), wA 2 _ (by decide)]; exact tb k hk
    have atw : ATM w := by
      obtain ⟨b1, b2, b3⟩ := at'
      exact ⟨by rw [e14]; exact b1, by rw [e14]; exact b2, fun k hk => by rw [e14] at hk; rw [wA 13 _ (by decide), wA 13 _ (by decide)]; exact b3 k hk⟩
    have w27 : A w 27 i = A u 27 i := a2 i (Or.inr (Nat.le_refl _))
    have t24 : w.2.2.1 24 i = I (A u 24 i) := I_A' (wA 24 i (by decide))
    show OK _ (fb_M_calls_2 N (gg_M_calls N m') w (I i))
    unfold fb_M_calls_2
    rw [I_F' e32, ei]
    refine k_le (x := F u 32) (y := (i : Int)) ⟨by omega, by omega⟩ ⟨by omega, by omega⟩ (fun y => by omega) (fun _ => ?_)
    refine k_in (k := 23) (n := 16000) rfl (by decide) (by omega) ?_
    refine k_A (y := 12) rfl ⟨by decide, by decide⟩ (fun z => ?_) (fun z => ?_)
    · rw [wA 23 i (by decide)] at z
      have n12 := ng.2.2 z
      refine k_in (k := 25) (n := 16000) rfl (by decide) (by omega) (k_in (k := 26) (n := 16000) rfl (by decide) (by omega) ?_)
      refine ok_bnd.mpr (ok_mono (functionOf_ok (by omega) e52 hG) (fun x r6 h6 => ?_))
      rw [h6.1]
      refine k_in (k := 25) (n := 16000) rfl (by decide) (by omega) (k_in (k := 26) (n := 16000) rfl (by decide) (by omega) ?_)
      have e25 : w.2.2.1 25 i = I (A u 25 i) := I_A' (wA 25 i (by decide))
      have e26 : w.2.2.1 26 i = I (A u 26 i) := I_A' (wA 26 i (by decide))
      rw [e25]
      refine ok_bnd.mpr (ok_mono (predefinedOf_ok (by omega) tbw atw (by rw [e14]; exact n12)) (fun x r7 h7 => ?_))
      rw [h7.1]
      have wr : ∀ w', FR [71, 72] [] [] [] w w' → (0 ≤ F w' 71 ∧ F w' 71 < 4002) → (F w' 72 = 0 → F w 72 = 0 ∧ ¬ (r6 = -1 ∧ r7 = -1) ∧ (A u 27 i = 1 → r6 = -1 ∧ ∃ k : Nat, k < 30 ∧ r7 = I k ∧ 18 ≤ k)) → OK (fun x _ => CLI u x G (F u 32).toNat) (fb_M_calls_113 N (gg_M_calls N m') w' (I i) r6 r7) := fun w' f1 f2 f3 => by
        unfold fb_M_calls_113 fb_M_calls_132 fb_M_calls_191
        rw [ei, en]
        have fin : ∀ (y : Int), RG y → (F w' 72 = 0 → F w 72 = 0 ∧ ((∃ k : Nat, k < 30 ∧ y = 2000 + k ∧ A u 26 i = ((npre k : Nat) : Int) ∧ (A u 27 i = 1 → 18 ≤ k)) ∨ (A u 27 i ≠ 1 ∧ 0 ≤ y ∧ y < G ∧ A u 48 y.toNat = A u 26 i))) → OK (fun x _ => CLI u x G (F u 32).toNat) (gg_M_calls N m' (wa w' 27 i y) (I ((i + 1 : Nat) : Int))) := fun y ry hy => by
          have fx : FR [71, 72] [] [] [] (wa w 27 i y) (wa w' 27 i y) := by
            refine ⟨fun k hk => f1.1 k hk, fun k hk => f1.2.1 k hk, fun k hk => ?_, fun k hk => f1.2.2.2 k hk⟩
            have e := f1.2.2.1 k hk
            show (if k = 27 then upd (w'.2.2.1 27) i (I y) else w'.2.2.1 k) = (if k = 27 then upd (w.2.2.1 27) i (I y) else w.2.2.1 k)
            by_cases q : k = 27
            · rw [if_pos q, if_pos q]; rw [q] at e; rw [e]
            · rw [if_neg q, if_neg q]; exact e
          refine nx _ (CLI_wa hw (Or.inl z) fx f2 ry (fun q => ?_))
          obtain ⟨q1, q2⟩ := hy q
          have e27 : A (wa w' 27 i y) 27 i = y := wa_eq ry
          refine ⟨q1, fun _ => ?_, fun q3 => by omega⟩
          rw [e27]; exact q2
        rcases h7.2 with h7' | ⟨k7, g1, g2, g3⟩
        · rw [h7']
          show OK _ (ck (isK 27 4) (ck (inb (I (i : Int)) (ln 27)) (lt (upA w' 27 (upd (w'.2.2.1 27) i r6)) (fun w1 => gg_M_calls N m' w1 (I ((i + 1 : Nat) : Int))))))
          refine ok_ck.mpr ⟨rfl, k_in (k := 27) (n := 16000) rfl (by decide) (by omega) (ok_lt.mpr ?_)⟩
          rcases h6.2 with h6' | ⟨f6, j1, j2, j3⟩
          · rw [h6', show (-1 : Int32) = I (-1) from rfl, wa_e]
            exact fin (-1) ⟨by decide, by decide⟩ (fun q => absurd ⟨h6', h7'⟩ (f3 q).2.1)
          · rw [j2, wa_e]
            refine fin f6 ⟨by omega, by omega⟩ (fun q => ⟨(f3 q).1, Or.inr ⟨fun q1 => ?_, by omega, by omega, ?_⟩⟩)
            · obtain ⟨-, k, qk, q2, q3⟩ := (f3 q).2.2 q1
              rw [h7'] at q2
              have : (-1 : Int) = k := by
                have := congrArg Int32.toInt q2
                rw [show (-1 : Int32) = I (-1) from rfl, I_ti (by omega) (by omega), I_ti (by omega) (by omega)] at this
                exact this
              omega
            · have : A w 48 f6 = A w 26 i := by
                show (w.2.2.1 48 f6).toInt = (w.2.2.1 26 i).toInt
                rw [j3]
              rw [wA 48 _ (by decide), wA 26 _ (by decide)] at this
              rw [show ((f6 : Nat) : Int).toNat = f6 by omega]; exact this
        · have r7n : r7 ≠ -1 := fun q => by
            rw [g2] at q
            have := congrArg Int32.toInt q
            rw [show (-1 : Int32) = I (-1) from rfl, I_ti (by omega) (by omega), I_ti (by omega) (by omega)] at this
            omega
          rw [decide_eq_false r7n, br_fq]
          refine ok_ck.mpr ⟨rfl, k_in (k := 27) (n := 16000) rfl (by decide) (by omega) (ok_lt.mpr ?_)⟩
          rw [g2, show (2000 : Int32) = I 2000 from rfl, I_add, wa_e]
          refine fin (2000 + k7) ⟨by omega, by omega⟩ (fun q => ⟨(f3 q).1, Or.inl ⟨k7, g1, rfl, ?_, fun q1 => ?_⟩⟩)
          · have := congrArg Int32.toInt (e26.symm.trans g3)
            have pf := (pst_f k7 g1).2.2.2
            rw [I_ti (ARG1 u 26 i).1 (ARG1 u 26 i).2, I_ti (by omega) (by omega)] at this
            exact this
          · obtain ⟨-, k, j1, j2, j3⟩ := (f3 q).2.2 q1
            have := congrArg Int32.toInt (g2.symm.trans j2)
            rw [I_ti (by omega) (by omega), I_ti (by omega) (by omega)] at this
            omega
      have ru : ∀ (cd : Int32) (s : Int), cd = I s → RG s → s ≠ 0 → OK (fun x _ => CLI u x G (F u 32).toNat) (ck (inb (I (i : Int)) (ln 24)) (bnd (fm_M_rule N w cd (w.2.2.1 24 i)) (fun u8 _ => fb_M_calls_113 N (gg_M_calls N m') u8 (I i) r6 r7))) := fun cd s hc hs h0 => by
        refine k_in (k := 24) (n := 16000) rfl (by decide) (by omega) ?_
        exact k_rule (s := s) (t := A u 24 i) hc hs h0 t24 (by omega) a3 (fun w' h1 h2 h3 => wr w' h1 h3 (fun q => absurd q h2))
      have c80 : ¬ (r6 = -1 ∧ r7 = -1) → OK (fun x _ => CLI u x G (F u 32).toNat) (fb_M_calls_80 N (gg_M_calls N m') w (I i) r6 r7) := fun hn => by
        unfold fb_M_calls_80 fb_M_calls_101
        rw [ei]
        refine k_in (k := 27) (n := 16000) rfl (by decide) (by omega) ?_
        refine k_A (y := 1) rfl ⟨by decide, by decide⟩ (fun q1 => ?_) (fun q1 => ?_)
        · rw [w27] at q1
          refine ok_br.mpr ⟨fun q2 => ok_br.mpr ⟨fun q3 => ?_, fun _ => ru 7 7 rfl ⟨by decide, by decide⟩ (by decide)⟩, fun _ => ru 7 7 rfl ⟨by decide, by decide⟩ (by decide)⟩
          have h6' : r6 = -1 := of_decide_eq_true q2
          have h18 : (18 : Int32) ≤ r7 := of_decide_eq_true q3
          refine wr w FR.rf a3 (fun q => ⟨q, hn, fun _ => ⟨h6', ?_⟩⟩)
          rcases h7.2 with g | ⟨k7, g1, g2, g3⟩
          · exact absurd ⟨h6', g⟩ hn
          · refine ⟨k7, g1, g2, ?_⟩
            rw [g2, show (18 : Int32) = I 18 from rfl, I_le (by omega) (by omega) (by omega) (by omega)] at h18
            omega
        · rw [w27] at q1
          exact wr w FR.rf a3 (fun q => ⟨q, hn, fun q2 => absurd q2 q1⟩)
      refine ok_br.mpr ⟨fun q1 => ok_br.mpr ⟨fun q2 => ru 6 6 rfl ⟨by decide, by decide⟩ (by decide), fun q2 => c80 (fun q => ?_)⟩, fun q1 => c80 (fun q => ?_)⟩
      · exact absurd q.2 (of_decide_eq_false q2)
      · exact absurd q.1 (of_decide_eq_false q1)
    · rw [wA 23 i (by decide)] at z
      refine k_in (k := 23) (n := 16000) rfl (by decide) (by omega) ?_
      refine k_A (y := 15) rfl ⟨by decide, by decide⟩ (fun z2 => ?_) (fun z2 => ?_)
      · rw [wA 23 i (by decide)] at z2
        refine k_in (k := 25) (n := 16000) rfl (by decide) (by omega) (k_in (k := 26) (n := 16000) rfl (by decide) (by omega) ?_)
        refine ok_bnd.mpr (ok_mono (functionOf_ok (by omega) e52 hG) (fun x r3 h3 => ?_))
        rw [h3.1]
        refine k_in (k := 27) (n := 16000) rfl (by decide) (by omega) (ok_lt.mpr (k_in (k := 27) (n := 16000) rfl (by decide) (by omega) ?_))
        unfold fb_M_calls_191
        rw [en, I_of r3, wa_e]
        have ry := ti_rng r3
        refine k_A (y := -1) rfl ⟨by decide, by decide⟩ (fun q => ?_) (fun q => ?_)
        · refine k_in (k := 24) (n := 16000) rfl (by decide) (by omega) ?_
          have t24' : (wa w 27 i r3.toInt).2.2.1 24 i = I (A u 24 i) := I_A' (by rw [wa_rne (by decide)]; exact wA 24 i (by decide))
          exact k_rule (s := 6) (t := A u 24 i) rfl ⟨by decide, by decide⟩ (by decide) t24' (by omega) (by rw [F_wa]; exact a3) (fun w' h1 h2 h3 => nx w' (CLI_wa hw (Or.inr z2) h1 h3 ry (fun q => absurd q h2)))
        · refine nx _ (CLI_wa hw (Or.inr z2) FR.rf a3 ry (fun q2 => ⟨q2, fun q3 => by omega, fun _ => ?_⟩))
          rw [wa_eq ry] at q ⊢
          rcases h3.2 with g | ⟨f3, g1, g2, g3⟩
          · rw [g] at q; exact absurd rfl q
          · rw [g2, I_ti (by omega) (by omega)]; omega
      · unfold fb_M_calls_191
        rw [wA 23 i (by decide)] at z2
        rw [en]
        refine nx w ⟨a1, fun j hj => a2 j (by
          by_cases q : j = i
          · rw [q]; exact Or.inl ⟨z, z2⟩
          · omega), a3, fun q => ⟨(a4 q).1, fun j hj => ?_⟩⟩
        by_cases q1 : j = i
        · rw [q1]; exact ⟨fun q2 => absurd q2 z, fun q2 => absurd q2 z2⟩
        · exact (a4 q).2 j (by omega)
theorem calls_ok (hN : 20000 ≤ N) (tb : TBL u) (at' : ATM u) (h52 : F u 52 = ((G : Nat) : Int)) (hG : G ≤ 1000) (ngd : NGD u u) (h32 : 0 ≤ F u 32 ∧ F u 32 ≤ 15999) (h71 : 0 ≤ F u 71 ∧ F u 71 < 4002) : OK (fun x _ => CLI u x G (F u 32).toNat) (fm_M_calls N u) := by
  unfold fm_M_calls fb_M_calls_0
  exact calls_loop hN tb at' h52 hG ngd h32 (F u 32).toNat 0 u N ⟨FR.rf, fun _ _ => rfl, h71, fun q => ⟨q, fun j hj => by omega⟩⟩ (by omega) (by omega)
end
end
section
section
variable {v w : MS} {T : TY} {C : CY} {a b : Nat → Nat} {SN ND CN PN UN FN n : Nat}
theorem CLS_w {CN many hg hb m l k cc r : Nat} {x : Int} (e : ∀ r j, r ≠ 27 → A w r j = A v r j) (h : CLS C v CN many hg hb m l k cc r x) : CLS C w CN many hg hb m l k cc r x := by
  obtain ⟨c, h1, h2, h3, h4⟩ := h
  exact ⟨c, h1, h2, by rw [e 41 c (by decide)]; exact h3, h4⟩
theorem PAT_w {PN L m m2 : Nat} {x : Int} (e : ∀ r j, r ≠ 27 → A w r j = A v r j) (h : PAT v id id PN SN L m m2 x) : PAT w id id PN SN L m m2 x := PAT_ag h (fun r i hr _ => e r i (by
  have : ∀ r, r ∈ [33, 35, 36, 37, 38] → r ≠ 27 := by decide
  exact this r hr))
theorem PATS_w {PN L m m2 many : Nat} {x : Int} (e : ∀ r j, r ≠ 27 → A w r j = A v r j) (h : PATS v id id PN SN L m m2 many x) : PATS w id id PN SN L m m2 many x := PATS_ag h (fun r i hr _ => e r i (by
  have : ∀ r, r ∈ [33, 35, 36, 37, 38] → r ≠ 27 := by decide
  exact this r hr))
theorem WNa_cv (h : WNa v T C id id (ND + 1) CN PN SN UN 0 n) (h15 : A v 23 n ≠ 15) (e : ∀ r j, r ≠ 27 → A w r j = A v r j) (e27 : A v 23 n ≠ 12 → A w 27 n = A v 27 n) (lo : LOW v a b (fun _ => False) n) (hb : b 0 = ND) (hend : ∀ x h mm, NX T n x h mm → x < ND + 1 → x < ND) : WNa w T C id id ND CN PN SN UN FN n := by
  obtain ⟨k11, k13, k14, k15, k16, k17, k18, k19, k20, k21, k31, k27, k28, k29, k30, k26⟩ := h
  obtain ⟨l1, l2, l3, l4, l5, l6⟩ := lo
  have e23 : ∀ j, A w 23 j = A v 23 j := fun j => e 23 j (by decide)
  have e25 : ∀ j, A w 25 j = A v 25 j := fun j => e 25 j (by decide)
  have e26 : ∀ j, A w 26 j = A v 26 j := fun j => e 26 j (by decide)
  have e30 : ∀ j, A w 30 j = A v 30 j := fun j => e 30 j (by decide)
  have e31 : ∀ j, A w 31 j = A v 31 j := fun j => e 31 j (by decide)
  have e54 : ∀ j, A w 54 j = A v 54 j := fun j => e 54 j (by decide)
  have e55 : ∀ j, A w 55 j = A v 55 j := fun j => e 55 j (by decide)
  have e57 : ∀ j, A w 57 j = A v 57 j := fun j => e 57 j (by decide)
  unfold WNa
  simp only [e23, e25, e26, e30, e31, e54, e55, e57]
  refine ⟨k11, k13, k14, fun z => absurd z h15, fun z => ?_, k17, k18, fun z => ?_, k20, fun z => ?_, fun z => ?_, fun z => ?_, fun z => ?_, k29, k30, fun z => ?_⟩
  · obtain ⟨q1, q2, m2, q3, q4⟩ := k16 z
    exact ⟨q1, q2, m2, PAT_w e q3, q4⟩
  · obtain ⟨q1, q2, q3, q4, q5, q6, q7, q8, q9, q10, x, q11, q12, q13⟩ := k19 z
    exact ⟨q1, q2, q3, q4, q5, q6, q7, q8, q9, q10, x, q11, hend x _ _ q13 q12, q13⟩
  · obtain ⟨q1, q2, q3, r, q4, q5⟩ := k21 z
    exact ⟨q1, q2, by rw [e27 (by omega)]; exact q3, r, q4, CLS_w e q5⟩
  · obtain ⟨q1, q3, r, q4, q5⟩ := k31 z
    exact ⟨q1, by rw [e27 (by omega)]; exact q3, r, q4, CLS_w e q5⟩
  · obtain ⟨q1, q2, q3, q4⟩ := k27 z
    refine ⟨q1, by rw [e27 (by omega)]; exact q2, ?_, ?_⟩
    · rcases q3 with q3 | ⟨r, q3, q5⟩
      · exact Or.inl q3
      · exact Or.inr ⟨r, q3, CLS_w e q5⟩
    · rcases q4 with q4 | ⟨f, q4, q5, x, q6, q7, q8⟩
      · exact Or.inl q4
      · have := l3 z (by omega)
        exact Or.inr ⟨f, q4, by omega, x, q6, hend x _ _ q8 q7, q8⟩
  · obtain ⟨q1, q2, c, q3, q4, q5, x, q6, q7, q8, q9, q10⟩ := k28 z
    exact ⟨q1, q2, c, by rw [e27 (by omega)]; exact q3, q4, q5, x, q6, hend x _ _ q10 q7, q8, q9, q10⟩
  · obtain ⟨q1, q2⟩ := k26 z
    refine ⟨q1, ?_⟩
    rcases q2 with ⟨x, q2, q3, q4⟩ | ⟨q2, r, q3, q4, x, q5, q6, q7⟩
    · exact Or.inl ⟨x, q2, hend x _ _ q4 q3, q4⟩
    · have := (l2 z).2 q2 id
      exact Or.inr ⟨q2, r, q3, by omega, x, q5, hend x _ _ q7 q6, q7⟩
theorem WNa_15 {ND' : Nat} (h15 : A v 23 n = 15) (e23 : A w 23 n = A v 23 n) (p15 : P15 v T n) (h27 : 0 ≤ A w 27 n ∧ A w 27 n < FN) : WNa w T C id id ND' CN PN SN UN FN n := by
  unfold WNa
  rw [e23, h15]
  obtain ⟨q1, q2⟩ := p15 h15
  exact ⟨fun z => by omega, fun z => by omega, fun z => by omega, fun _ => ⟨q1, h27.1, h27.2, q2⟩, fun z => by omega, fun z => by omega, fun z => by omega, fun z => by omega, fun z => by omega, fun z => by omega, fun z => by omega, fun z => by omega, fun z => by omega, fun z => by omega, fun z => by omega, fun z => by omega⟩
theorem WNb_cv (h : WNb v T C (ND + 1) SN 0 n) (h12 : A v 23 n ≠ 12) (e : ∀ r j, r ≠ 27 → A w r j = A v r j) (e14 : F w 14 = F v 14) (hend : ∀ x h mm, NX T n x h mm → x < ND + 1 → x < ND) : WNb w T C ND SN FN n := by
  obtain ⟨k1, k2, k3, k4, k5, k6, k7, k9, k12, k22, k23⟩ := h
  have e23 : ∀ j, A w 23 j = A v 23 j := fun j => e 23 j (by decide)
  have e25 : ∀ j, A w 25 j = A v 25 j := fun j => e 25 j (by decide)
  have e26 : ∀ j, A w 26 j = A v 26 j := fun j => e 26 j (by decide)
  unfold WNb
  simp only [e23, e25, e26, e14]
  refine ⟨k1, k2, k3, k4, k5, k6, k7, fun z => ?_, fun z => absurd z h12, k22, k23⟩
  obtain ⟨q1, q2, x, q3, q4, q5⟩ := k9 z
  exact ⟨q1, q2, x, q3, hend x _ _ q5 q4, q5⟩
theorem WNb_12 {ND' : Nat} (h12 : A v 23 n = 12) (e : ∀ r j, r ≠ 27 → A w r j = A v r j) (p12 : P12 v T n) (cl : CL12 v w FN n) (e48 : ∀ j, A w 48 j = A v 48 j) : WNb w T C ND' SN FN n := by
  have e23 : A w 23 n = A v 23 n := e 23 n (by decide)
  unfold WNb
  rw [e23, h12, e 26 n (by decide), e 30 n (by decide)]
  obtain ⟨⟨b, q1, q2, q3, q4⟩, q5, q6⟩ := p12 h12
  refine ⟨fun z => by omega, fun z => by omega, fun z => by omega, fun z => by omega, fun z => by omega, fun z => by omega, fun z => by omega, fun z => by omega, fun _ => ⟨⟨b, q1, q2, q3, q4, ?_⟩, q6⟩, fun z => by omega, fun z => by omega⟩
  rcases cl h12 with ⟨k, c1, c2, c3, c4⟩ | ⟨c1, c2, c3, c4⟩
  · exact Or.inl ⟨k, c2, c1, by omega, fun z => c4 (q5 z)⟩
  · refine Or.inr ⟨?_, c2, c3, by rw [e48]; omega⟩
    by_cases z : tG T n = 0
    · exact z
    · exact absurd (q5 z) c1
theorem NW_cv {rk m : Nat} (h : NWX v T C Z0 rk m a b n) (e : ∀ r j, r ≠ 27 → A w r j = A v r j) (hb : b 0 = ND ∧ b 1 = CN) (hl : n < ND ∧ A v 23 (ND - 1) = 29) : NW w T C ND CN n := by
  obtain ⟨⟨h1, h2, h3, h4, h5, h6, h7⟩, k1, k2, k3⟩ := h
  have e23 : ∀ j, A w 23 j = A v 23 j := fun j => e 23 j (by decide)
  have e24 : ∀ j, A w 24 j = A v 24 j := fun j => e 24 j (by decide)
  have e25 : ∀ j, A w 25 j = A v 25 j := fun j => e 25 j (by decide)
  have e45 : ∀ j, A w 45 j = A v 45 j := fun j => e 45 j (by decide)
  unfold NW
  simp only [e23, e24, e25, e45]
  refine ⟨h1, h2, h3, h4, h5, ⟨h6, h7⟩, fun z => ?_, fun z => ?_, k3.1, k3.2.1, k3.2.2.1, k3.2.2.2.1, fun z => ?_, k3.2.2.2.2⟩
  · rcases k1 z with ⟨q1, q2, q3, q4, q5, q6, q7, x, q8, q9, q10, q11⟩ | q
    · exact ⟨by omega, q3, q4, q5, q6, q7, x, q8, q11⟩
    · exact (KOUT_0 z q).elim
  · rcases k2 z with ⟨c, q1, q2, q3, q4, q5, q6, q7, q8, q9⟩ | q
    · exact ⟨c, q1, by omega, q4, q5, q6, q7, q8, fun d hd => (q9 d hd).2.2⟩
    · exact (GOUT_0 z q).elim
  · rcases Nat.lt_or_ge (n + 1) ND with q | q
    · exact q
    · obtain rfl : n = ND - 1 := by omega
      exact absurd hl.2 z
theorem CWD_cv {c : Nat} (h : CWD v T C id id (ND + 1) CN PN SN c) (e : ∀ r j, r ≠ 27 → A w r j = A v r j) (hT : tR T ND = 20000) : CWD w T C id id ND CN PN SN c := by
  obtain ⟨⟨many, p1, p2, p3⟩, k1, k2, k3, k4⟩ := h
  have e40 : ∀ j, A w 40 j = A v 40 j := fun j => e 40 j (by decide)
  have e41 : ∀ j, A w 41 j = A v 41 j := fun j => e 41 j (by decide)
  have e42 : ∀ j, A w 42 j = A v 42 j := fun j => e 42 j (by decide)
  have e43 : ∀ j, A w 43 j = A v 43 j := fun j => e 43 j (by decide)
  have e45 : ∀ j, A w 45 j = A v 45 j := fun j => e 45 j (by decide)
  unfold CWD
  simp only [e40, e41, e42, e43, e45]
  refine ⟨⟨many, p1, p2, PATS_w e p3⟩, k1, ?_, ?_, k4⟩
  · rcases k2 with q | ⟨x, q1, q2, q3, q4, q5⟩
    · exact Or.inl q
    · refine Or.inr ⟨x, q1, ?_, q3, q4, q5⟩
      rcases Nat.lt_or_ge x ND with z | z
      · exact z
      · obtain rfl : x = ND := by omega
        omega
  · obtain ⟨x, q1, q2, q3, q4, q5, q6, q7, q8, q9⟩ := k3
    refine ⟨x, q1, ?_, q3, q4, q5, q6, q7, q8, q9⟩
    rcases Nat.lt_or_ge x ND with z | z
    · exact z
    · obtain rfl : x = ND := by omega
      omega
theorem prg_of {G : Nat} {Bd : Nat → Nat → Nat} (hf : FNT v SN G Bd) (hB : Bd G = mks v) (hG : 0 < G ∧ G ≤ 1000) (hn : 0 ≤ F v 32 ∧ F v 32 ≤ 15000) (hc : 0 ≤ F v 46 ∧ F v 46 ≤ 1400) (hq : 0 ≤ F v 39 ∧ F v 39 ≤ 2900) (hu : 0 ≤ F v 56 ∧ F v 56 ≤ 1400) (hh : 0 ≤ F v 58 ∧ F v 58 ≤ 24000) (cl : CLI v w G (F v 32).toNat) (h52 : F v 52 = ((G : Nat) : Int)) (h72 : F w 72 = 0) (st : STR w SN) : ∃ (T : TY) (C : CY), PRG w T C id id (F v 32).toNat (F v 46).toNat (F v 39).toNat SN (F v 56).toNat G := by
  have m0 : Bd G 0 = (F v 32).toNat := by rw [hB]; rfl
  have m1 : Bd G 1 = (F v 46).toNat := by rw [hB]; rfl
  have m2 : Bd G 2 = (F v 39).toNat := by rw [hB]; rfl
  have m3 : Bd G 3 = (F v 56).toNat := by rw [hB]; rfl
  have m4 : Bd G 4 = (F v 58).toNat := by rw [hB]; rfl
  obtain ⟨T, C, v1, v2, v3, v4, v5⟩ := all_types hf (by omega) G 0 (by omega)
  obtain ⟨c1, c2, c3, c4⟩ := cl
  obtain ⟨c5, c6⟩ := c4 h72
  have v4' := v4 hG.1
  rw [m0] at v4' v2
  have hT : tR T (F v 32).toNat = 20000 := v2 8 (Nat.le_refl _)
  have e : ∀ r j, r ≠ 27 → A w r j = A v r j := fun r j hr => c1.A (by simpa using hr)
  have e14 : F w 14 = F v 14 := c1.F (by decide)
  have z0 := hf.1
  refine ⟨T, C, ⟨by omega, by omega, by omega, by omega, hG.2, by rw [c1.F (by decide)]; exact h52, by rw [c1.F (by decide)]; omega⟩, st, fun n hn' => ?_, fun c hc' => ?_, fun f hf' => ?_, fun x hx => ?_⟩
  · have nd := v1.1 n (by rw [z0]; omega) (by omega)
    obtain ⟨d1, d2, d3, d4, d5, d6, d7, d8⟩ := nd
    rw [m0, m1, m2, m3] at d2
    rw [m0] at d3
    have r16 : tR T n ≤ 16000 := d1.1.2.2.2.2.2.2
    have hend : ∀ x h mm, NX T n x h mm → x < (F v 32).toNat + 1 → x < (F v 32).toNat := fun x h mm hx hlt => by
      rcases Nat.lt_or_ge x (F v 32).toNat with z | z
      · exact z
      · obtain rfl : x = (F v 32).toNat := by omega
        have := hx.2.2.2.2.2.2.2.2
        omega
    have cln := c6 n hn'
    refine ⟨NW_cv d1 e ⟨m0, m1⟩ ⟨hn', v4'.1⟩, ?_, ?_⟩
    · by_cases z : A v 23 n = 15
      · exact WNa_15 z (e 23 n (by decide)) d5 (cln.2 z)
      · exact WNa_cv (d2 z id) z e (fun q => c2 n (Or.inl ⟨q, z⟩)) d7 m0 hend
    · by_cases z : A v 23 n = 12
      · exact WNb_12 z e d4 cln.1 (fun j => e 48 j (by decide))
      · exact WNb_cv (d3 z) z e e14 hend
  · have cw := (v1.2.1 c (by rw [z0]; omega) (by omega)).1
    rw [m0, m1, m2] at cw
    exact CWD_cv cw e hT
  · obtain ⟨x, r, q1, q2, -, q4, q5⟩ := v5 f (by omega) hf'
    rw [m1] at q5
    exact ⟨x, r, by rw [e 48 f (by decide)]; exact q1, q2, by rw [e 50 f (by decide), q4]; exact CLS_w e q5⟩
  · obtain ⟨⟨y, h', r, q1, q2, q3, q4, q5, q6⟩, -⟩ := v1.2.2 x (by rw [z0]; omega) (by omega)
    rw [m1] at q6
    rw [m4] at q4
    exact ⟨y, h', r, by rw [e 54 x (by decide)]; exact q1, q2, by rw [e 55 x (by decide)]; exact q3, by rw [e 55 x (by decide)]; omega, q5, by rw [e 53 x (by decide)]; exact CLS_w e q6⟩
end
end
section
def smB (c : Int32) : Prop := ¬ (c < 97) ∧ ¬ (122 < c)
def grB (c : Int32) : Prop := (¬ (c < 65) ∧ c ≤ 90) ∨ c = 95
def dgB (c : Int32) : Prop := ¬ (c < 48) ∧ ¬ (57 < c)
def inB (c : Int32) : Prop := smB c ∨ grB c ∨ dgB c
def byI (u : MS) (k : Int) : Int32 := if F u 5 ≤ k then -1 else u.2.2.1 4 k.toNat &&& 255
theorem inB_no : ¬ inB (-1) := by unfold inB smB grB dgB; decide
section
variable {α : Type} {Q : MS → α → Prop} {u v : MS} {N : Nat} {c : Int32} {k : Int}
theorem k_byteAt {f : MS → Int32 → Option (MS × α)} {x : Int32} (hx : x = I k) (hk : 0 ≤ k ∧ k ≤ 5000) (h5 : 0 ≤ F u 5 ∧ F u 5 ≤ 4000) (a : OK Q (f u (byI u k))) : OK Q (bnd (fm_M_byteAt N u x) f) := by
  unfold fm_M_byteAt fb_M_byteAt_0 fb_M_byteAt_22
  rw [hx, I_F (k := 5)]
  unfold byI at a
  by_cases z : F u 5 ≤ k
  · rw [if_pos z] at a
    have : decide (I (F u 5) ≤ I k) = true := decide_eq_true ((I_le (by omega) (by omega) (by omega) (by omega)).mpr z)
    rw [this, br_tq, bnd_so]; exact a
  · rw [if_neg z] at a
    have : decide (I (F u 5) ≤ I k) = false := decide_eq_false (fun q => z ((I_le (by omega) (by omega) (by omega) (by omega)).mp q))
    rw [this, br_fq]
    have h4 : inb (I k) (ln 4) = true := inb_at (k := 4) (n := 4000) rfl hk.1 (by omega) (by decide)
    rw [h4, ck_t, bnd_so, I_tn (by omega) (by omega)]; exact a
theorem k_small {f : MS → Int32 → Option (MS × α)} (a : smB c → OK Q (f u 1)) (b : ¬ smB c → OK Q (f u 0)) : OK Q (bnd (fm_M_isSmall N u c) f) := by
  unfold fm_M_isSmall fb_M_isSmall_0 fb_M_isSmall_16 fb_M_isSmall_17
  by_cases z : c < 97
  · rw [decide_eq_true z, br_tq]
    show OK Q (f u 0)
    exact b (fun q => q.1 z)
  · rw [decide_eq_false z, br_fq]
    by_cases y : 122 < c
    · rw [decide_eq_true y, br_tq]
      show OK Q (f u 0)
      exact b (fun q => q.2 y)
    · rw [decide_eq_false y, br_fq]
      show OK Q (f u 1)
      exact a ⟨z, y⟩
theorem k_great {f : MS → Int32 → Option (MS × α)} (a : grB c → OK Q (f u 1)) (b : ¬ grB c → OK Q (f u 0)) : OK Q (bnd (fm_M_isGreat N u c) f) := by
  unfold fm_M_isGreat fb_M_isGreat_0 fb_M_isGreat_12 fb_M_isGreat_18 fb_M_isGreat_23
  by_cases z : c < 65
  · rw [decide_eq_true z, br_tq]
    by_cases y : c = 95
    · rw [decide_eq_true y, br_tq]
      show OK Q (f u 1)
      exact a (Or.inr y)
    · rw [decide_eq_false y, br_fq]
      show OK Q (f u 0)
      refine b (fun q => ?_)
      rcases q with q | q
      · exact q.1 z
      · exact y q
  · rw [decide_eq_false z, br_fq]
    by_cases y : c ≤ 90
    · rw [decide_eq_true y, br_tq]
      show OK Q (f u 1)
      exact a (Or.inl ⟨z, y⟩)
    · rw [decide_eq_false y, br_fq]
      by_cases x : c = 95
      · rw [decide_eq_true x, br_tq]
        show OK Q (f u 1)
        exact a (Or.inr x)
      · rw [decide_eq_false x, br_fq]
        show OK Q (f u 0)
        refine b (fun q => ?_)
        rcases q with q | q
        · exact y q.2
        · exact x q
theorem k_digit {f : MS → Int32 → Option (MS × α)} (a : dgB c → OK Q (f u 1)) (b : ¬ dgB c → OK Q (f u 0)) : OK Q (bnd (fm_M_isDigit N u c) f) := by
  unfold fm_M_isDigit fb_M_isDigit_0 fb_M_isDigit_16 fb_M_isDigit_17
  by_cases z : c < 48
  · rw [decide_eq_true z, br_tq]
    show OK Q (f u 0)
    exact b (fun q => q.1 z)
  · rw [decide_eq_false z, br_fq]
    by_cases y : 57 < c
    · rw [decide_eq_true y, br_tq]
      show OK Q (f u 0)
      exact b (fun q => q.2 y)
    · rw [decide_eq_false y, br_fq]
      show OK Q (f u 1)
      exact a ⟨z, y⟩
theorem small_e : fm_M_isSmall N u c = some (u, 1) ∧ smB c ∨ fm_M_isSmall N u c = some (u, 0) ∧ ¬ smB c := by
  unfold fm_M_isSmall fb_M_isSmall_0 fb_M_isSmall_16 fb_M_isSmall_17
  by_cases z : c < 97
  · rw [decide_eq_true z, br_tq]
    exact Or.inr ⟨rfl, fun q => q.1 z⟩
  · rw [decide_eq_false z, br_fq]
    by_cases y : 122 < c
    · rw [decide_eq_true y, br_tq]
      exact Or.inr ⟨rfl, fun q => q.2 y⟩
    · rw [decide_eq_false y, br_fq]
      exact Or.inl ⟨rfl, z, y⟩
theorem k_inner {f : MS → Int32 → Option (MS × α)} (a : inB c → OK Q (f u 1)) (b : ¬ inB c → OK Q (f u 0)) : OK Q (bnd (fm_M_isInner N u c) f) := by
  have key : ∀ (w : Option (MS × Int32)), OK (fun v r => v = u ∧ ((r = 1 ∧ inB c) ∨ (r = 0 ∧ ¬ inB c))) w → OK Q (bnd w f) := fun w hw => by
    refine ok_bnd.mpr (ok_mono hw (fun v r h => ?_))
    obtain ⟨rfl, h⟩ := h
    rcases h with ⟨h1, h2⟩ | ⟨h1, h2⟩
    · rw [h1]; exact a h2
    · rw [h1]; exact b h2
  refine key _ ?_
  unfold fm_M_isInner fb_M_isInner_0 fb_M_isInner_21 fb_M_isInner_26
  refine k_small (fun z => ?_) (fun z => ?_)
  · rw [br10]; exact ok_some.mpr ⟨rfl, Or.inl ⟨rfl, Or.inl z⟩⟩
  · rw [br00]
    refine k_great (fun y => ?_) (fun y => ?_)
    · rw [br10]; exact ok_some.mpr ⟨rfl, Or.inl ⟨rfl, Or.inr (Or.inl y)⟩⟩
    · rw [br00]
      refine k_digit (fun x => ?_) (fun x => ?_)
      · rw [br10]; exact ok_some.mpr ⟨rfl, Or.inl ⟨rfl, Or.inr (Or.inr x)⟩⟩
      · rw [br00]
        refine ok_some.mpr ⟨rfl, Or.inr ⟨rfl, fun q => ?_⟩⟩
        rcases q with q | q | q
        · exact z q
        · exact y q
        · exact x q
end
end
section
def TBX (u : MS) (r1 many : Nat) : Prop := many ≤ 2198 ∧ ∀ k, k ≤ many → 0 ≤ A u r1 k ∧ A u r1 k ≤ 5000 ∧ (k < many → A u r1 k ≤ A u r1 (k + 1))
def TSM (u : MS) (r0 r1 r3 k bg len : Nat) : Prop := A u r1 (k + 1) - A u r1 k = len ∧ ∀ i, i < len → u.2.2.1 r0 ((A u r1 k).toNat + i) = u.2.2.1 r3 (bg + i)
def TXN (u : MS) (r0 r1 r3 many bg len : Nat) (v : MS) : Prop := FR [] [] [r0, r1] [] u v ∧ (∀ j, j ≠ many + 1 → A v r1 j = A u r1 j) ∧ A v r1 (many + 1) = A u r1 many + len ∧ (∀ i, i < len → v.2.2.1 r0 ((A u r1 many).toNat + i) = vp_nar .byte (u.2.2.1 r3 (bg + i))) ∧ ∀ j : Nat, (j : Int) < A u r1 many → v.2.2.1 r0 j = u.2.2.1 r0 j
def TXQ (u : MS) (r0 r1 r3 many bg len : Nat) (v : MS) (r : Int32) : Prop := (∃ k, k < many ∧ v = u ∧ r = I k ∧ TSM u r0 r1 r3 k bg len) ∨ (r = I many ∧ (∀ k, k < many → ¬ TSM u r0 r1 r3 k bg len) ∧ TXN u r0 r1 r3 many bg len v)
section
variable {u v : MS} {N r0 r1 r3 many bg len L3 : Nat}
theorem tx_copy (h1 : isK r1 4 = true ∧ ln r1 = 2200) (h0 : isK r0 3 = true ∧ ln r0 = 5000) (h3 : isK r3 3 = true ∧ ln r3 = L3 ∧ L3 < 100000) (hne : r0 ≠ r1 ∧ r3 ≠ r0 ∧ r3 ≠ r1) (tx : TBX u r1 many) (hb : bg + len ≤ L3) (hs : A u r1 many + len ≤ 5000) : ∀ (d i : Nat) (v : MS) (m : Nat), i + d = len → d + 1 ≤ m → FR [] [] [r0] [] u v → (∀ j, j < i → v.2.2.1 r0 ((A u r1 many).toNat + j) = vp_nar .byte (u.2.2.1 r3 (bg + j))) → (∀ j : Nat, (j : Int) < A u r1 many → v.2.2.1 r0 j = u.2.2.1 r0 j) → OK (fun w r => r = I many ∧ TXN u r0 r1 r3 many bg len w) ((gg_M_textOf N m).2.2 v r0 r1 (I many) r3 (I bg) (I len) (I i)) := by
  obtain ⟨t1, t2⟩ := tx
  have tm := t2 many (Nat.le_refl _)
  have em : (I ((many : Nat) : Int)).toNatClampNeg = many := by rw [I_tn (by omega) (by omega)]; omega
  have em1 : I (many : Int) + 1 = I ((many + 1 : Nat) : Int) := by rw [lit1q, I_add]; rfl
  have em2 : (I ((many + 1 : Nat) : Int)).toNatClampNeg = many + 1 := by rw [I_tn (by omega) (by omega)]; omega
  intro d
  induction d with
  | zero =>
    intro i v m hi hm f1 f2 f3
    obtain ⟨m', rfl⟩ : ∃ m', m = m' + 1 := ⟨m - 1, by omega⟩
    show OK _ (fb_M_textOf_96 N (gg_M_textOf N m') v r0 r1 (I many) r3 (I bg) (I len) (I i))
    unfold fb_M_textOf_96
    have v1 : v.2.2.1 r1 many = I (A u r1 many) := by
      rw [I_A]; congr 1; exact f1.A (by simpa using Ne.symm hne.1)
    refine k_le (x := (len : Int)) (y := (i : Int)) ⟨by omega, by omega⟩ ⟨by omega, by omega⟩ (fun _ => ?_) (fun y => by omega)
    rw [em1]
    refine ok_ck.mpr ⟨h1.1, k_in (n := 2200) h1.2 (by decide) (by omega) (ok_ck.mpr ⟨h1.1, k_in (n := 2200) h1.2 (by decide) (by omega) (ok_lt.mpr (ok_some.mpr ⟨rfl, ?_⟩))⟩)⟩
    rw [em, em2, v1, I_add, wa_e]
    have ry : RG (A u r1 many + len) := ⟨by omega, by omega⟩
    refine ⟨FR.wa (FR.mo f1 (by simp) (by simp) (by intro k hk; simp at hk; simp [hk]) (by simp)) (by simp), fun j hj => ?_, wa_eq ry, fun j hj => ?_, fun j hj => ?_⟩
    · rw [wa_ne hj]; exact f1.A (by simpa using Ne.symm hne.1)
    · show (if r0 = r1 then _ else v.2.2.1 r0) _ = _
      rw [if_neg hne.1]; exact f2 j (by omega)
    · show (if r0 = r1 then _ else v.2.2.1 r0) _ = _
      rw [if_neg hne.1]; exact f3 j hj
  | succ d ih =>
    intro i v m hi hm f1 f2 f3
    obtain ⟨m', rfl⟩ : ∃ m', m = m' + 1 := ⟨m - 1, by omega⟩
    show OK _ (fb_M_textOf_96 N (gg_M_textOf N m') v r0 r1 (I many) r3 (I bg) (I len) (I i))
    unfold fb_M_textOf_96
    have v1 : v.2.2.1 r1 many = I (A u r1 many) := by
      rw [I_A]; congr 1; exact f1.A (by simpa using Ne.symm hne.1)
    have v3 : ∀ j, v.2.2.1 r3 j = u.2.2.1 r3 j := fun j => by
      have := f1.2.2.1 r3 (by simpa using hne.2.1)
      rw [this]
    have e1 : I (bg : Int) + I (i : Int) = I ((bg + i : Nat) : Int) := by rw [I_add]; congr 1
    have e2 : v.2.2.1 r1 (I ((many : Nat) : Int)).toNatClampNeg + I (i : Int) = I (A u r1 many + i) := by rw [em, v1, I_add]
    have e3 : I (i : Int) + 1 = I ((i + 1 : Nat) : Int) := by rw [lit1q, I_add]; rfl
    have ebi : (I ((bg + i : Nat) : Int)).toNatClampNeg = bg + i := by rw [I_tn (by omega) (by omega)]; omega
    have eai : (I (A u r1 many + i)).toNatClampNeg = (A u r1 many).toNat + i := by rw [I_tn (by omega) (by omega)]; omega
    refine k_le (x := (len : Int)) (y := (i : Int)) ⟨by omega, by omega⟩ ⟨by omega, by omega⟩ (fun y => by omega) (fun _ => ?_)
    rw [e1, e2, e3, ebi, eai]
    refine ok_ck.mpr ⟨h1.1, k_in (n := 2200) h1.2 (by decide) (by omega) (ok_ck.mpr ⟨h3.1, k_in (n := L3) h3.2.1 (by omega) (by omega) (ok_ck.mpr ⟨h0.1, k_in (n := 5000) h0.2 (by decide) (by omega) (ok_lt.mpr ?_)⟩)⟩)⟩
    rw [v3]
    refine ih (i + 1) _ m' (by omega) (by omega) ?_ (fun j hj => ?_) (fun j hj => ?_)
    · rw [I_of (vp_nar .byte (u.2.2.1 r3 (bg + i))), wa_e]
      exact FR.wa f1 (by simp)
    · show (if r0 = r0 then upd (v.2.2.1 r0) _ _ else v.2.2.1 r0) _ = _
      rw [if_pos rfl]
      show (if (A u r1 many).toNat + j = (A u r1 many).toNat + i then _ else _) = _
      by_cases z : j = i
      · rw [if_pos (by omega), z]
      · rw [if_neg (by omega)]; exact f2 j (by omega)
    · show (if r0 = r0 then upd (v.2.2.1 r0) _ _ else v.2.2.1 r0) _ = _
      rw [if_pos rfl]
      show (if j = (A u r1 many).toNat + i then _ else _) = _
      rw [if_neg (by omega)]; exact f3 j hj
theorem tx_cmp {k m0 : Nat} (h1 : isK r1 4 = true ∧ ln r1 = 2200) (h0 : isK r0 3 = true ∧ ln r0 = 5000) (h3 : isK r3 3 = true ∧ ln r3 = L3 ∧ L3 < 100000) (tx : TBX u r1 many) (hk : k < many) (hb : bg + len ≤ L3) (hl : len ≤ 5000) (hO : ¬ TSM u r0 r1 r3 k bg len → ∀ m, m0 ≤ m → OK (TXQ u r0 r1 r3 many bg len) ((gg_M_textOf N m).1 u r0 r1 (I many) r3 (I bg) (I len) (I ((k + 1 : Nat) : Int)))) : ∀ (d i : Nat) (s : Int32) (m : Nat), i + d = len → m0 + d + 1 ≤ m → ((s = 0 ∧ ¬ TSM u r0 r1 r3 k bg len) ∨ (s = 1 ∧ A u r1 (k + 1) - A u r1 k = len ∧ ∀ j, j < i → u.2.2.1 r0 ((A u r1 k).toNat + j) = u.2.2.1 r3 (bg + j))) → OK (TXQ u r0 r1 r3 many bg len) ((gg_M_textOf N m).2.1 u r0 r1 (I many) r3 (I bg) (I len) (I k) s (I i)) := by
  obtain ⟨t1, t2⟩ := tx
  have tk := t2 k (by omega)
  have tk1 := t2 (k + 1) (by omega)
  have ek : (I ((k : Nat) : Int)).toNatClampNeg = k := by rw [I_tn (by omega) (by omega)]; omega
  have ek1 : I (k : Int) + 1 = I ((k + 1 : Nat) : Int) := by rw [lit1q, I_add]; rfl
  intro d
  induction d with
  | zero =>
    intro i s m hi hm hs
    obtain ⟨m', rfl⟩ : ∃ m', m = m' + 1 := ⟨m - 1, by omega⟩
    show OK _ (fb_M_textOf_35 N (gg_M_textOf N m') u r0 r1 (I many) r3 (I bg) (I len) (I k) s (I i))
    unfold fb_M_textOf_35 fb_M_textOf_79
    refine k_le (x := (len : Int)) (y := (i : Int)) ⟨by omega, by omega⟩ ⟨by omega, by omega⟩ (fun _ => ?_) (fun y => by omega)
    rcases hs with ⟨hs, hn⟩ | ⟨hs, hl2, ha⟩
    · rw [hs, br00, ek1]; exact hO hn m' (by omega)
    · rw [hs, br10]
      exact ok_some.mpr (Or.inl ⟨k, hk, rfl, rfl, hl2, fun j hj => ha j (by omega)⟩)
  | succ d ih =>
    intro i s m hi hm hs
    obtain ⟨m', rfl⟩ : ∃ m', m = m' + 1 := ⟨m - 1, by omega⟩
    show OK _ (fb_M_textOf_35 N (gg_M_textOf N m') u r0 r1 (I many) r3 (I bg) (I len) (I k) s (I i))
    unfold fb_M_textOf_35 fb_M_textOf_79
    refine k_le (x := (len : Int)) (y := (i : Int)) ⟨by omega, by omega⟩ ⟨by omega, by omega⟩ (fun y => by omega) (fun _ => ?_)
    rcases hs with ⟨hs, hn⟩ | ⟨hs, hl2, ha⟩
    · rw [hs, br00, br00, ek1]; exact hO hn m' (by omega)
    · rw [hs, br10]
      have e1 : I (bg : Int) + I (i : Int) = I ((bg + i : Nat) : Int) := by rw [I_add]; congr 1
      have e2 : u.2.2.1 r1 (I ((k : Nat) : Int)).toNatClampNeg + I (i : Int) = I (A u r1 k + i) := by rw [ek, I_A, I_add]
      have e3 : I (i : Int) + 1 = I ((i + 1 : Nat) : Int) := by rw [lit1q, I_add]; rfl
      have ebi : (I ((bg + i : Nat) : Int)).toNatClampNeg = bg + i := by rw [I_tn (by omega) (by omega)]; omega
      have eai : (I (A u r1 k + i)).toNatClampNeg = (A u r1 k).toNat + i := by rw [I_tn (by omega) (by omega)]; omega
      unfold fb_M_textOf_71
      rw [e1, e2, e3, ebi, eai]
      refine ok_ck.mpr ⟨h1.1, k_in (n := 2200) h1.2 (by decide) (by omega) (ok_ck.mpr ⟨h0.1, k_in (n := 5000) h0.2 (by decide) (by omega) (ok_ck.mpr ⟨h3.1, k_in (n := L3) h3.2.1 (by omega) (by omega) (ok_br.mpr ⟨fun q => ?_, fun q => ?_⟩)⟩)⟩)⟩
      · have q' := of_decide_eq_true q
        refine ih (i + 1) 1 m' (by omega) (by omega) (Or.inr ⟨rfl, hl2, fun j hj => ?_⟩)
        by_cases z : j = i
        · rw [z]; exact q'
        · exact ha j (by omega)
      · have q' := of_decide_eq_false q
        exact ih (i + 1) 0 m' (by omega) (by omega) (Or.inl ⟨rfl, fun ts => q' (ts.2 i (by omega))⟩)
theorem tx_outer (h1 : isK r1 4 = true ∧ ln r1 = 2200) (h0 : isK r0 3 = true ∧ ln r0 = 5000) (h3 : isK r3 3 = true ∧ ln r3 = L3 ∧ L3 < 100000) (hne : r0 ≠ r1 ∧ r3 ≠ r0 ∧ r3 ≠ r1) (tx : TBX u r1 many) (hb : bg + len ≤ L3) (hs : A u r1 many + len ≤ 5000) : ∀ (d k : Nat), k + d = many → (∀ j, j < k → ¬ TSM u r0 r1 r3 j bg len) → ∀ m, (len + 3) * (d + 1) ≤ m → OK (TXQ u r0 r1 r3 many bg len) ((gg_M_textOf N m).1 u r0 r1 (I many) r3 (I bg) (I len) (I k)) := by
  have tx' := tx
  obtain ⟨t1, t2⟩ := tx
  have tm := t2 many (Nat.le_refl _)
  intro d
  induction d with
  | zero =>
    intro k hk hn m hm
    obtain ⟨m', rfl⟩ : ∃ m', m = m' + 1 := ⟨m - 1, by omega⟩
    show OK _ (fb_M_textOf_3 N (gg_M_textOf N m') u r0 r1 (I many) r3 (I bg) (I len) (I k))
    unfold fb_M_textOf_3
    refine k_le (x := (many : Int)) (y := (k : Int)) ⟨by omega, by omega⟩ ⟨by omega, by omega⟩ (fun _ => ?_) (fun y => by omega)
    refine ok_mono (tx_copy h1 h0 h3 hne tx' hb hs len 0 u m' (by omega) (by omega) FR.rf (fun j hj => by omega) (fun j _ => rfl)) (fun w r hw => Or.inr ⟨hw.1, fun j hj => hn j (by omega), hw.2⟩)
  | succ d ih =>
    intro k hk hn m hm
    have mul : (len + 3) * (d + 1 + 1) = (len + 3) * (d + 1) + (len + 3) := Nat.mul_succ _ _
    obtain ⟨m', rfl⟩ : ∃ m', m = m' + 1 := ⟨m - 1, by omega⟩
    have tk := t2 k (by omega)
    have tk1 := t2 (k + 1) (by omega)
    show OK _ (fb_M_textOf_3 N (gg_M_textOf N m') u r0 r1 (I many) r3 (I bg) (I len) (I k))
    unfold fb_M_textOf_3 fb_M_textOf_30
    have ek : (I ((k : Nat) : Int)).toNatClampNeg = k := by rw [I_tn (by omega) (by omega)]; omega
    have ek1 : I (k : Int) + 1 = I ((k + 1 : Nat) : Int) := by rw [lit1q, I_add]; rfl
    have ek2 : (I ((k + 1 : Nat) : Int)).toNatClampNeg = k + 1 := by rw [I_tn (by omega) (by omega)]; omega
    refine k_le (x := (many : Int)) (y := (k : Int)) ⟨by omega, by omega⟩ ⟨by omega, by omega⟩ (fun y => by omega) (fun _ => ?_)
    rw [ek1, ek, ek2, I_A (k := r1) (i := k + 1), I_A (k := r1) (i := k), I_sub]
    refine ok_ck.mpr ⟨h1.1, k_in (n := 2200) h1.2 (by decide) (by omega) (ok_ck.mpr ⟨h1.1, k_in (n := 2200) h1.2 (by decide) (by omega) ?_⟩)⟩
    have cmp := fun s hs' => tx_cmp (N := N) (u := u) (r0 := r0) (r3 := r3) (bg := bg) (len := len) (m0 := (len + 3) * (d + 1)) h1 h0 h3 tx' (show k < many by omega) hb (by omega) (fun hz m hm => ih (k + 1) (by omega) (fun j hj => by
      by_cases z : j = k
      · rw [z]; exact hz
      · exact hn j (by omega)) m hm) len 0 s m' (by omega) (by omega) hs'
    refine k_eq (x := A u r1 (k + 1) - A u r1 k) (y := (len : Int)) ⟨by omega, by omega⟩ ⟨by omega, by omega⟩ (fun q => ?_) (fun q => ?_)
    · exact cmp 1 (Or.inr ⟨rfl, q, fun j hj => by omega⟩)
    · exact cmp 0 (Or.inl ⟨rfl, fun ts => q ts.1⟩)
theorem textOf_ok (hN : 200000 ≤ N) (h1 : isK r1 4 = true ∧ ln r1 = 2200) (h0 : isK r0 3 = true ∧ ln r0 = 5000) (h3 : isK r3 3 = true ∧ ln r3 = L3 ∧ L3 < 100000) (hne : r0 ≠ r1 ∧ r3 ≠ r0 ∧ r3 ≠ r1) (tx : TBX u r1 many) (hb : bg + len ≤ L3) (hs : A u r1 many + len ≤ 5000) (hl : len ≤ 30) : OK (TXQ u r0 r1 r3 many bg len) (fm_M_textOf N u r0 r1 (I many) r3 (I bg) (I len)) := by
  unfold fm_M_textOf fb_M_textOf_0
  have tm := tx.1
  have : (len + 3) * (many + 1) ≤ 33 * 2199 := Nat.mul_le_mul (by omega) (by omega)
  exact tx_outer h1 h0 h3 hne tx hb hs many 0 (by omega) (fun j hj => by omega) N (by omega)
end
end
section
def faL : List Nat := [4, 116, 114, 117, 101, 5, 102, 97, 108, 115, 101, 2, 111, 107, 4, 110, 111, 110, 101, 6, 110, 111, 114, 109, 97, 108, 4, 107, 105, 108, 108, 6, 107, 105, 108, 108, 101, 100, 5, 101, 114, 114, 111, 114, 4, 101, 120, 105, 116, 4, 100, 111, 119, 110, 8, 105, 110, 102, 105, 110, 105, 116, 121, 6, 98, 97, 100, 97, 114, 103, 8, 98, 97, 100, 97, 114, 105, 116, 104, 8, 98, 97, 100, 109, 97, 116, 99, 104, 15, 102, 117, 110, 99, 116, 105, 111, 110, 95, 99, 108, 97, 117, 115, 101, 11, 99, 97, 115, 101, 95, 99, 108, 97, 117, 115, 101, 9, 105, 102, 95, 99, 108, 97, 117, 115, 101, 6, 98, 97, 100, 102, 117, 110, 8, 98, 97, 100, 97, 114, 105, 116, 121, 7, 110, 111, 99, 97, 116, 99, 104, 4, 104, 101, 97, 112, 5, 115, 116, 97, 99, 107]
def faT (i : Nat) : Nat := faL.getD i 0
def faS (j : Nat) : Nat := [0, 5, 11, 14, 19, 26, 31, 38, 44, 49, 54, 63, 70, 79, 88, 104, 116, 126, 133, 142, 150, 155, 161].getD j 0
def faN (j : Nat) : Nat := [4, 5, 2, 4, 6, 4, 6, 5, 4, 4, 8, 6, 8, 8, 15, 11, 9, 6, 8, 7, 4, 5].getD j 0
def faO (j : Nat) : Nat := [0, 4, 9, 11, 15, 21, 25, 31, 36, 40, 44, 52, 58, 66, 74, 89, 100, 109, 115, 123, 130, 134, 139].getD j 0
def FAB (u : MS) : Prop := ∀ i, i < 161 → A u 1 i = ((faT i : Nat) : Int)
theorem fa_f : ∀ j, j < 22 → faT (faS j) = faN j ∧ faS (j + 1) = faS j + faN j + 1 ∧ faO (j + 1) = faO j + faN j ∧ faS (j + 1) ≤ 161 ∧ faN j ≤ 15 ∧ faO (j + 1) ≤ 139 := by decide
theorem fa_d : ∀ j, j < 22 → ∀ k, k < j → faN k = faN j → ∃ i, i < faN j ∧ faT (faS k + 1 + i) ≠ faT (faS j + 1 + i) := by decide
set_option maxRecDepth 100000 in
theorem fa_b : ∀ i, i < 161 → faT i ≤ 127 := by decide
theorem nar_id {x : Int} (h1 : -128 ≤ x) (h2 : x ≤ 127) : vp_nar .byte (I x) = I x := by
  show (I x).toInt8.toInt32 = I x
  apply Int32.toInt_inj.mp
  rw [Int8.toInt_toInt32, Int32.toInt_toInt8, I_ti (by omega) (by omega)]
  exact Int.bmod_eq_of_le (by omega) (by omega)
theorem fa_n (i : Nat) (hi : i < 161) : vp_nar .byte (I (faT i)) = I (faT i) := by
  have := fa_b i hi
  exact nar_id (by omega) (by omega)
section
variable {u v w : MS} {N j : Nat}
def ATX (u : MS) : Prop := 0 ≤ F u 14 ∧ TBX u 13 (F u 14).toNat
def AMQ (u : MS) (len : Nat) (v : MS) (r : Int32) : Prop := FR [14] [] [12, 13] [] u v ∧ ATX v ∧ (F v 14 = F u 14 ∨ F v 14 = F u 14 + 1) ∧ F u 14 ≤ F v 14 ∧ A v 13 (F v 14).toNat ≤ A u 13 (F u 14).toNat + len ∧ A v 13 0 = A u 13 0 ∧ ∃ k : Nat, r = I k ∧ (k : Int) < F v 14
theorem atom_ok {r3 bg len L3 : Nat} (hN : 200000 ≤ N) (h3 : isK r3 3 = true ∧ ln r3 = L3 ∧ L3 < 100000) (hne : r3 ≠ 12 ∧ r3 ≠ 13) (ax : ATX u) (h14 : F u 14 ≤ 2190) (hb : bg + len ≤ L3) (hs : A u 13 (F u 14).toNat + len ≤ 5000) (hl : len ≤ 30) : OK (fun v r => AMQ u len v r ∧ ((F v 14 = F u 14 + 1 ∧ r = I (F u 14) ∧ (∀ k, k < (F u 14).toNat → ¬ TSM u 12 13 r3 k bg len) ∧ TXN u 12 13 r3 (F u 14).toNat bg len (wi v 14 (F u 14))) ∨ (v = u ∧ ∃ k, k < (F u 14).toNat ∧ r = I k ∧ TSM u 12 13 r3 k bg len))) (fm_M_atom N u r3 (I bg) (I len)) := by
  obtain ⟨a1, a2⟩ := ax
  have e14 : F u 14 = (((F u 14).toNat : Nat) : Int) := by omega
  unfold fm_M_atom fb_M_atom_0 fb_M_atom_43
  rw [I_F (k := 14)]
  have tx := textOf_ok (N := N) (u := u) (r0 := 12) (r1 := 13) (r3 := r3) (many := (F u 14).toNat) (bg := bg) (len := len) (L3 := L3) hN ⟨rfl, rfl⟩ ⟨rfl, rfl⟩ h3 ⟨by decide, hne.1, hne.2⟩ a2 hb hs hl
  rw [← e14] at tx
  refine ok_bnd.mpr (ok_mono tx (fun x r hx => ?_))
  rcases hx with ⟨k, h1, h2, h3', h4⟩ | ⟨h1, h2, h3'⟩
  · have ne : ¬ (r = x.1 14) := fun z => by
      rw [h3', h2, I_F (k := 14)] at z
      have := congrArg Int32.toInt z
      rw [I_ti (by omega) (by omega), I_ti (F_r u 14).1 (F_r u 14).2] at this
      omega
    rw [decide_eq_false ne, br_fq]
    refine ok_lt.mpr (ok_some.mpr ?_)
    have ex : upI x 14 (x.1 14) = u := by
      rw [h2]
      obtain ⟨u1, u2⟩ := u
      show ((fun j => if j = 14 then u1 14 else u1 j), u2) = (u1, u2)
      have : (fun j => if j = 14 then u1 14 else u1 j) = u1 := by
        funext j
        by_cases z : j = 14
        · rw [if_pos z, z]
        · rw [if_neg z]
      rw [this]
    rw [ex]
    exact ⟨⟨FR.rf, ⟨a1, a2⟩, Or.inl rfl, Int.le_refl _, by omega, rfl, k, h3', by omega⟩, Or.inr ⟨rfl, k, h1, h3', h4⟩⟩
  · have x14 : F x 14 = F u 14 := h3'.1.F (by intro z; cases z)
    have eq : r = x.1 14 := by rw [h1, I_F (k := 14), x14]; congr 1; omega
    rw [decide_eq_true eq, br_tq]
    have e15 : x.1 14 + 1 = I (F u 14 + 1) := by rw [I_F (k := 14), x14, lit1q, I_add]
    rw [e15, wi_e]
    refine ok_lt.mpr (ok_some.mpr ?_)
    have f14 : F (wi x 14 (F u 14 + 1)) 14 = F u 14 + 1 := wi_eq ⟨by omega, by omega⟩
    have t13 : ∀ j, A (wi x 14 (F u 14 + 1)) 13 j = A x 13 j := fun _ => rfl
    have em : (F u 14 + 1).toNat = (F u 14).toNat + 1 := by omega
    obtain ⟨g1, g2, g3, g4, g5⟩ := id h3'
    have am := a2.2 (F u 14).toNat (Nat.le_refl _)
    have ww : wi (wi x 14 (F u 14 + 1)) 14 (F u 14) = x := by
      obtain ⟨x1, x2⟩ := x
      have hx14 : x1 14 = I (F u 14) := I_F' x14
      show ((fun j => if j = 14 then I (F u 14) else (fun j => if j = 14 then I (F u 14 + 1) else x1 j) j), x2) = (x1, x2)
      have : (fun j => if j = 14 then I (F u 14) else (fun j => if j = 14 then I (F u 14 + 1) else x1 j) j) = x1 := by
        funext j
        by_cases z : j = 14
        · simp only [z, if_true]; exact hx14.symm
        · simp only [z, if_false]
      rw [this]
    refine ⟨⟨FR.wi (FR.mo g1 (by simp) (by simp) (by simp) (by simp)) (by decide), ⟨by omega, ?_⟩, Or.inr f14, by omega, ?_, (t13 0).trans (g2 0 (by omega)), (F u 14).toNat, h1, by omega⟩, Or.inl ⟨f14, by rw [h1]; congr 1; omega, h2, by rw [ww]; exact h3'⟩⟩
    · rw [f14, em]
      refine ⟨by omega, fun k hk => ?_⟩
      rw [t13, t13]
      by_cases z : k = (F u 14).toNat + 1
      · rw [z, g3]
        refine ⟨by omega, by omega, fun y => by omega⟩
      · have ak := a2.2 k (by omega)
        rw [g2 k z]
        refine ⟨ak.1, ak.2.1, fun y => ?_⟩
        by_cases z2 : k = (F u 14).toNat
        · rw [z2, g3]; omega
        · rw [g2 (k + 1) (by omega)]; exact ak.2.2 (by omega)
    · rw [f14, em, t13, g3]; omega
def FAI (u w : MS) (j : Nat) : Prop := FR [14, 17, 20] [] [12, 13] [] u w ∧ F w 14 = ((j : Nat) : Int) ∧ F w 17 = 0 ∧ F w 20 = 0 ∧ (∀ i, i ≤ j → A w 13 i = ((faO i : Nat) : Int)) ∧ ∀ k, k < j → ∀ i, i < faN k → w.2.2.1 12 (faO k + i) = I (faT (faS k + 1 + i))
theorem faO_mo : ∀ i, i < 23 → ∀ k, k ≤ i → faO k ≤ faO i := by decide
theorem faO_lt : ∀ j, j < 23 → ∀ k, k < j → faO k + faN k ≤ faO j := by decide
theorem first_loop (hN : 200000 ≤ N) (fb : FAB u) (h0 : A u 13 0 = 0) : ∀ (d j : Nat) (w : MS) (m : Nat), j + d = 22 → d + 1 ≤ m → FAI u w j → OK (fun v _ => FAI u v 22) (gg_M_allFirstAtoms N m w (I (faS j))) := by
  intro d
  induction d with
  | zero =>
    intro j w m hj hm hw
    obtain ⟨m', rfl⟩ : ∃ m', m = m' + 1 := ⟨m - 1, by omega⟩
    obtain rfl : j = 22 := by omega
    show OK _ (fb_M_allFirstAtoms_17 N (gg_M_allFirstAtoms N m') w (I (faS 22)))
    unfold fb_M_allFirstAtoms_17
    exact ok_some.mpr hw
  | succ d ih =>
    intro j w m hj hm hw
    obtain ⟨m', rfl⟩ : ∃ m', m = m' + 1 := ⟨m - 1, by omega⟩
    have hj2 : j < 22 := by omega
    have ff := fa_f j hj2
    obtain ⟨b1, b2, b3, b4, b5, b6⟩ := id hw
    have w1 : ∀ i, i < 161 → A w 1 i = ((faT i : Nat) : Int) := fun i hi => by rw [b1.A (by decide)]; exact fb i hi
    have ww : ∀ i, i < 161 → w.2.2.1 1 i = I (faT i) := fun i hi => I_A' (w1 i hi)
    show OK _ (fb_M_allFirstAtoms_17 N (gg_M_allFirstAtoms N m') w (I (faS j)))
    unfold fb_M_allFirstAtoms_17
    have es : (I ((faS j : Nat) : Int)).toNatClampNeg = faS j := by rw [I_tn (by omega) (by omega)]; omega
    have e1 : I (faS j : Int) + 1 = I ((faS j + 1 : Nat) : Int) := by rw [lit1q, I_add]; rfl
    have e161 : Int32.ofNat (ln 1) = I 161 := rfl
    rw [e161, e1, es, ww _ (by omega), ff.1]
    refine k_le (x := 161) (y := (faS j : Int)) ⟨by decide, by decide⟩ ⟨by omega, by omega⟩ (fun y => by omega) (fun _ => ?_)
    refine k_in (k := 1) (n := 161) rfl (by decide) (by omega) ?_
    have o22 := faO_mo j (by omega)
    have ax : ATX w := by
      refine ⟨by omega, by omega, fun k hk => ?_⟩
      have hk' : k ≤ j := by omega
      rw [b5 k hk']
      have := o22 k hk'
      refine ⟨by omega, by omega, fun y => ?_⟩
      rw [b5 (k + 1) (by omega)]
      have := (fa_f k (by omega)).2.2.1
      omega
    have ej : (F w 14).toNat = j := by omega
    refine ok_bnd.mpr (ok_mono (atom_ok (r3 := 1) (L3 := 161) (bg := faS j + 1) (len := faN j) hN ⟨rfl, rfl, by decide⟩ ⟨by decide, by decide⟩ ax (by omega) (by omega) (by rw [ej, b5 j (Nat.le_refl _)]; omega) (by omega)) (fun x r hx => ?_))
    obtain ⟨hq, hx⟩ := hx
    rw [ej] at hx
    rcases hx with ⟨g1, g2, g3, g4⟩ | ⟨-, k, g1, g2, g3⟩
    · obtain ⟨p1, p2, p3, p4, p5⟩ := g4
      have q1 := hq.1
      have x1 : x.2.2.1 1 (faS j) = I (faN j) := by
        rw [I_A, q1.A (by decide), w1 _ (by omega), ff.1]
      have x12 : ∀ i, x.2.2.1 12 i = (wi x 14 (F w 14)).2.2.1 12 i := fun _ => rfl
      have x13 : ∀ i, A x 13 i = A (wi x 14 (F w 14)) 13 i := fun _ => rfl
      refine k_in (k := 1) (n := 161) rfl (by decide) (by omega) (ok_lt.mpr ?_)
      have en : I (faS j : Int) + (x.2.2.1 1 (faS j) + 1) = I ((faS (j + 1) : Nat) : Int) := by
        rw [x1, lit1q, I_add, I_add]; congr 1; omega
      rw [en]
      have bj := b5 j (Nat.le_refl _)
      refine ih (j + 1) x m' (by omega) (by omega) ⟨FR.tr b1 (FR.mo q1 (by decide) (by decide) (by decide) (by decide)), by omega, by rw [q1.F (by decide)]; exact b3, by rw [q1.F (by decide)]; exact b4, fun i hi => ?_, fun k hk i hi => ?_⟩
      · rw [x13]
        by_cases z : i = j + 1
        · rw [z, p3, bj]; omega
        · rw [p2 i z]; exact b5 i (by omega)
      · rw [x12]
        by_cases z : k = j
        · subst z
          have := p4 i hi
          rw [bj, show (((faO k : Nat) : Int)).toNat = faO k by omega] at this
          rw [this, ww _ (by omega)]
          exact fa_n _ (by omega)
        · have lt := faO_lt j (by omega) k (by omega)
          rw [p5 _ (by omega)]
          exact b6 k (by omega) i hi
    · exfalso
      obtain ⟨t1, t2⟩ := g3
      rw [b5 (k + 1) (by omega), b5 k (by omega)] at t1
      have fk := (fa_f k (by omega)).2.2.1
      obtain ⟨i, i1, i2⟩ := fa_d j hj2 k g1 (by omega)
      have t3 := t2 i i1
      rw [b5 k (by omega), show (((faO k : Nat) : Int)).toNat = faO k by omega, b6 k g1 i (by omega), ww _ (by omega)] at t3
      have ks : faS k + 1 + i < 161 := by
        have := (fa_f k (by omega)).2
        omega
      have r1 := fa_b (faS k + 1 + i) ks
      have r2 := fa_b (faS j + 1 + i) (by omega)
      have := congrArg Int32.toInt t3
      rw [I_ti (by omega) (by omega), I_ti (by omega) (by omega)] at this
      omega
end
end
section
def wst (k : Nat) : Nat := [0, 6, 14, 20, 25, 31, 35, 39, 43, 46, 50, 53, 60, 68, 72, 77].getD k 0
def wln (k : Nat) : Nat := [5, 7, 5, 4, 5, 3, 3, 3, 2, 3, 2, 6, 7, 3, 4].getD k 0
def WTB (w : MS) : Prop := ∀ k, k < 15 → A w 0 (wst k) = ((wln k : Nat) : Int)
theorem wst_f : ∀ k, k < 15 → wst (k + 1) = wst k + wln k + 1 ∧ wst (k + 1) ≤ 77 ∧ wln k ≤ 7 := by decide
section
variable {Q : MS → Unit → Prop} {u v : MS} {N fr len : Nat}
theorem firstA_ok (hN : 200000 ≤ N) (fb : FAB u) (h0 : A u 13 0 = 0) : OK (fun v _ => FAI u v 22) (fm_M_allFirstAtoms N u) := by
  unfold fm_M_allFirstAtoms fb_M_allFirstAtoms_0
  refine ok_lt.mpr (ok_lt.mpr (ok_lt.mpr ?_))
  show OK _ (gg_M_allFirstAtoms N N (wi (wi (wi u 14 0) 17 0) 20 0) (I (faS 0)))
  refine first_loop hN fb h0 22 0 _ N (by omega) (by omega) ⟨FR.wi (FR.wi (FR.wi FR.rf (by decide)) (by decide)) (by decide), rfl, rfl, rfl, fun i hi => ?_, fun k hk => by omega⟩
  obtain rfl : i = 0 := by omega
  exact h0
def WDQ (u : MS) (len : Nat) (v : MS) (r : Int32) : Prop := v = u ∧ (r = -1 ∨ ∃ k : Nat, k < 15 ∧ r = I k ∧ len = wln k)
theorem wd_inner (hf : fr + len ≤ 4000) (wt : WTB u) {k : Nat} (hk : k < 15) {m0 : Nat} (hO : ∀ m, m0 ≤ m → OK (WDQ u len) ((gg_M_wordAt N m).1 u (I fr) (I len) (I (wst (k + 1))) (I ((k + 1 : Nat) : Int)))) : (∀ (i m : Nat), i ≤ len → m0 + 1 ≤ m → OK (WDQ u len) ((gg_M_wordAt N m).2 u (I fr) (I len) (I (wst k)) (I k) 0 (I i))) ∧ (len = wln k → ∀ (d i m : Nat), i + d = len → m0 + d + 2 ≤ m → OK (WDQ u len) ((gg_M_wordAt N m).2 u (I fr) (I len) (I (wst k)) (I k) 1 (I i))) := by
  have pf := wst_f k hk
  have t := wt k hk
  have es : (I ((wst k : Nat) : Int)).toNatClampNeg = wst k := by rw [I_tn (by omega) (by omega)]; omega
  have e2 : I (k : Int) + 1 = I ((k + 1 : Nat) : Int) := by rw [lit1q, I_add]; rfl
  have f81 : ∀ (s : Int32) (m : Nat), m0 ≤ m → (s = 0 ∨ (s = 1 ∧ len = wln k)) → OK (WDQ u len) (fb_M_wordAt_81 N (gg_M_wordAt N m) u (I fr) (I len) (I (wst k)) (I k) s) := fun s m hm hs => by
    unfold fb_M_wordAt_81
    rcases hs with hs | ⟨hs, h2⟩
    · rw [hs, br00, es]
      refine k_in (k := 0) (n := 77) rfl (by decide) (by omega) (ok_lt.mpr ?_)
      have e1 : I (wst k : Int) + (u.2.2.1 0 (wst k) + 1) = I ((wst (k + 1) : Nat) : Int) := by
        rw [I_A' t, lit1q, I_add, I_add]; congr 1; omega
      rw [e1, e2]; exact hO m hm
    · rw [hs, br10]; exact ok_some.mpr ⟨rfl, Or.inr ⟨k, hk, rfl, h2⟩⟩
  have c0 : ∀ (i m : Nat), i ≤ len → m0 + 1 ≤ m → OK (WDQ u len) ((gg_M_wordAt N m).2 u (I fr) (I len) (I (wst k)) (I k) 0 (I i)) := fun i m hi hm => by
    obtain ⟨m', rfl⟩ : ∃ m', m = m' + 1 := ⟨m - 1, by omega⟩
    show OK _ (fb_M_wordAt_34 N (gg_M_wordAt N m') u (I fr) (I len) (I (wst k)) (I k) 0 (I i))
    unfold fb_M_wordAt_34
    rw [br00]
    exact ok_br.mpr ⟨fun _ => f81 0 m' (by omega) (Or.inl rfl), fun _ => f81 0 m' (by omega) (Or.inl rfl)⟩
  refine ⟨c0, fun hl d => ?_⟩
  induction d with
  | zero =>
    intro i m hi hm
    obtain ⟨m', rfl⟩ : ∃ m', m = m' + 1 := ⟨m - 1, by omega⟩
    show OK _ (fb_M_wordAt_34 N (gg_M_wordAt N m') u (I fr) (I len) (I (wst k)) (I k) 1 (I i))
    unfold fb_M_wordAt_34
    exact k_le (x := (len : Int)) (y := (i : Int)) ⟨by omega, by omega⟩ ⟨by omega, by omega⟩ (fun _ => f81 1 m' (by omega) (Or.inr ⟨rfl, hl⟩)) (fun y => by omega)
  | succ d ih =>
    intro i m hi hm
    obtain ⟨m', rfl⟩ : ∃ m', m = m' + 1 := ⟨m - 1, by omega⟩
    show OK _ (fb_M_wordAt_34 N (gg_M_wordAt N m') u (I fr) (I len) (I (wst k)) (I k) 1 (I i))
    unfold fb_M_wordAt_34 fb_M_wordAt_73
    rw [br10]
    have e3 : I (wst k : Int) + 1 + I (i : Int) = I ((wst k : Int) + 1 + i) := by rw [lit1q, I_add, I_add]
    have e4 : I (fr : Int) + I (i : Int) = I ((fr : Int) + i) := I_add
    have e5 : I (i : Int) + 1 = I ((i + 1 : Nat) : Int) := by rw [lit1q, I_add]; rfl
    rw [e3, e4, e5]
    refine k_le (x := (len : Int)) (y := (i : Int)) ⟨by omega, by omega⟩ ⟨by omega, by omega⟩ (fun y => by omega) (fun _ => ?_)
    exact k_in (k := 0) (n := 77) rfl (by decide) (by omega) (k_in (k := 4) (n := 4000) rfl (by decide) (by omega) (ok_br.mpr ⟨fun _ => ih (i + 1) m' (by omega) (by omega), fun _ => c0 (i + 1) m' (by omega) (by omega)⟩))
theorem wd_outer (hf : fr + len ≤ 4000) (wt : WTB u) : ∀ (d k : Nat), k + d = 15 → ∀ m, 20 * d + 1 ≤ m → OK (WDQ u len) ((gg_M_wordAt N m).1 u (I fr) (I len) (I (wst k)) (I k)) := by
  intro d
  induction d with
  | zero =>
    intro k hk m hm
    obtain ⟨m', rfl⟩ : ∃ m', m = m' + 1 := ⟨m - 1, by omega⟩
    obtain rfl : k = 15 := by omega
    show OK _ (fb_M_wordAt_5 N (gg_M_wordAt N m') u (I fr) (I len) (I (wst 15)) (I (15 : Nat)))
    unfold fb_M_wordAt_5
    exact ok_some.mpr ⟨rfl, Or.inl rfl⟩
  | succ d ih =>
    intro k hk m hm
    obtain ⟨m', rfl⟩ : ∃ m', m = m' + 1 := ⟨m - 1, by omega⟩
    have hk3 : k < 15 := by omega
    have pf := wst_f k hk3
    have t := wt k hk3
    show OK _ (fb_M_wordAt_5 N (gg_M_wordAt N m') u (I fr) (I len) (I (wst k)) (I k))
    unfold fb_M_wordAt_5 fb_M_wordAt_29
    have e0 : Int32.ofNat (ln 0) = I 77 := rfl
    have es : (I ((wst k : Nat) : Int)).toNatClampNeg = wst k := by rw [I_tn (by omega) (by omega)]; omega
    rw [e0, es, I_A' t]
    refine k_le (x := 77) (y := (wst k : Int)) ⟨by decide, by decide⟩ ⟨by omega, by omega⟩ (fun y => by omega) (fun _ => ?_)
    refine k_in (k := 0) (n := 77) rfl (by decide) (by omega) ?_
    have inn := wd_inner (N := N) hf wt hk3 (m0 := 20 * d + 1) (fun m hm => ih (k + 1) (by omega) m hm)
    refine k_eq (x := (wln k : Int)) (y := (len : Int)) ⟨by omega, by omega⟩ ⟨by omega, by omega⟩ (fun z => ?_) (fun _ => inn.1 0 m' (by omega) (by omega))
    exact inn.2 (by omega) len 0 m' (by omega) (by omega)
theorem wordAt_ok (hN : 1000 ≤ N) (hf : fr + len ≤ 4000) (wt : WTB u) : OK (WDQ u len) (fm_M_wordAt N u (I fr) (I len)) := by
  unfold fm_M_wordAt fb_M_wordAt_0
  exact wd_outer hf wt 15 0 rfl N (by omega)
def tkn (u : MS) (s y : Int) : MS := wi (wa (wa (wa u 6 (F u 9).toNat s) 7 (F u 9).toNat y) 8 (F u 9).toNat (F u 11)) 9 (F u 9 + 1)
theorem k_token {α : Type} {Q : MS → α → Prop} {f : MS → Unit → Option (MS × α)} {c d : Int32} {s y : Int} (hc : vp_nar .byte (c.toInt8.toInt32) = I s) (hd : d = I y) (h9 : 0 ≤ F u 9 ∧ F u 9 ≤ 4001) (a : OK Q (f (tkn u s y) ())) : OK Q (bnd (fm_M_token N u c d) f) := by
  unfold fm_M_token fb_M_token_0
  have e1 : inb (u.1 9) (ln 6) = true := by rw [I_F (k := 9)]; exact inb_at (k := 6) (n := 4002) rfl (by omega) (by omega) (by decide)
  have e2 : inb (u.1 9) (ln 7) = true := by rw [I_F (k := 9)]; exact inb_at (k := 7) (n := 4002) rfl (by omega) (by omega) (by decide)
  have e3 : inb (u.1 9) (ln 8) = true := by rw [I_F (k := 9)]; exact inb_at (k := 8) (n := 4002) rfl (by omega) (by omega) (by decide)
  rw [hc, hd, e1, ck_t, tn_F, wa_e]
  show OK Q (bnd (ck (inb (u.1 9) (ln 7)) _) f)
  rw [e2, ck_t]
  show OK Q (bnd (ck (inb (u.1 9) (ln 8)) _) f)
  rw [e3, ck_t]
  have e4 : (wa (wa (wa u 6 (F u 9).toNat s) 7 (F u 9).toNat y) 8 (F u 9).toNat (F u 11)).1 9 + 1 = I (F u 9 + 1) := by rw [I_F (k := 9), F_wa, F_wa, F_wa, lit1q, I_add]
  have e5 : (wa (wa u 6 (F u 9).toNat s) 7 (F u 9).toNat y).1 11 = I (F u 11) := by rw [I_F (k := 11), F_wa, F_wa]
  have goal : OK Q (bnd (lt (upA (wa (wa u 6 (F u 9).toNat s) 7 (F u 9).toNat y) 8 (upd ((wa (wa u 6 (F u 9).toNat s) 7 (F u 9).toNat y).2.2.1 8) (F u 9).toNat ((wa (wa u 6 (F u 9).toNat s) 7 (F u 9).toNat y).1 11))) (fun w3 => lt (upI w3 9 ((w3.1 9) + 1)) (fun w4 => some (w4, ())))) f) := by
    rw [e5, wa_e]
    show OK Q (bnd (lt (upI (wa (wa (wa u 6 (F u 9).toNat s) 7 (F u 9).toNat y) 8 (F u 9).toNat (F u 11)) 9 ((wa (wa (wa u 6 (F u 9).toNat s) 7 (F u 9).toNat y) 8 (F u 9).toNat (F u 11)).1 9 + 1)) (fun w4 => some (w4, ()))) f)
    rw [e4, wi_e]
    exact a
  exact goal
end
end
section
def TKI (w : MS) (tn : Nat) (bw : Nat → Nat) : Prop := ∀ i, i < tn → (1 ≤ A w 6 i ∧ A w 6 i ≤ 7 ∧ (A w 6 i = 1 → 0 ≤ A w 7 i ∧ A w 7 i < F w 14) ∧ (A w 6 i = 2 → 0 ≤ A w 7 i ∧ A w 7 i < F w 17) ∧ (A w 6 i = 3 → 0 ≤ A w 7 i ∧ A w 7 i ≤ 14) ∧ (A w 6 i = 5 → 0 ≤ A w 7 i ∧ A w 7 i < F w 20)) ∧ (bw i + 1 ≤ bw (i + 1) ∧ (A w 6 i = 3 → A w 7 i = 6 ∨ A w 7 i = 7 → bw i + 3 ≤ bw (i + 1)) ∧ (A w 6 i = 6 → A w 7 i = 10 → bw i + 2 ≤ bw (i + 1)) ∧ (A w 6 i = 5 → bw i + 2 ≤ bw (i + 1)) ∧ (A w 6 i = 3 → A w 7 i = 6 → bw i + 4 ≤ bw (i + 1) + nu w i))
def G27 : List Int32 := [65, 66, 67, 68, 69, 70, 71, 72, 73, 74, 75, 76, 77, 78, 79, 80, 81, 82, 83, 84, 85, 86, 87, 88, 89, 90, 95]
def NMI (w : MS) (n1 n2 : Nat) : Prop := F w 17 = ((n1 + n2 : Nat) : Int) ∧ TBX w 16 (n1 + n2) ∧ ∃ seen : Int32 → Bool, n1 ≤ G27.countP seen ∧ ∀ c, seen c = true → ∃ k, k < n1 + n2 ∧ A w 16 (k + 1) - A w 16 k = 1 ∧ w.2.2.1 15 (A w 16 k).toNat = c
def SRI (w : MS) : Prop := 0 ≤ F w 20 ∧ F w 20 ≤ 2001 ∧ ∀ s : Nat, (s : Int) ≤ F w 20 → 0 ≤ A w 19 s ∧ A w 19 s ≤ 4002 ∧ ((s : Int) < F w 20 → A w 19 s ≤ A w 19 (s + 1))
def TB0 (w : MS) : Prop := A w 13 0 = 0 ∧ A w 16 0 = 0 ∧ A w 19 0 = 0
def TBI (w : MS) (p : Int) : Prop := TB0 w ∧ (22 ≤ F w 14 ∧ ATX w ∧ A w 13 (F w 14).toNat ≤ 139 + p) ∧ (SRI w ∧ 2 * F w 20 ≤ p ∧ A w 19 (F w 20).toNat ≤ p) ∧ ∃ n1 n2 : Nat, NMI w n1 n2 ∧ A w 16 (n1 + n2) ≤ p ∧ 2 * (F w 14 - 22) + 2 * n1 + 3 * n2 ≤ F w 5 + 1 ∧ 2 * (F w 14 - 22) + 2 * n1 + 3 * n2 ≤ p + 1 ∧ (inB (byI w p) → 2 * (F w 14 - 22) + 2 * n1 + 3 * n2 ≤ p)
def RDI (u w : MS) (tn : Nat) (p : Int) (bw : Nat → Nat) : Prop := FR [9, 10, 11, 14, 17, 20] [] [6, 7, 8, 12, 13, 15, 16, 18, 19] [] u w ∧ (F w 9 = ((tn : Nat) : Int) ∧ F w 10 = p) ∧ (bw 0 = 0 ∧ TKI w tn bw) ∧ ((bw tn : Int) ≤ p ∧ (bw tn : Int) ≤ F w 5 ∧ p ≤ F w 5 + 1) ∧ (0 < tn → (1 ≤ A w 6 (tn - 1) ∧ A w 6 (tn - 1) ≤ 4) → ¬ inB (byI w (bw tn))) ∧ TBI w p
section
variable {u w w1 x : MS} {tn e : Nat} {p p2 s y : Int} {bw : Nat → Nat}
theorem TKI_le (h : TKI w tn bw) (h0 : bw 0 = 0) : ∀ i, i ≤ tn → i ≤ bw i := by
  intro i
  induction i with
  | zero => intro _; exact Nat.zero_le _
  | succ i ih => intro hi; have := ih (by omega); have := (h i (by omega)).2.1; omega
theorem byI_fr (h4 : ∀ i, w1.2.2.1 4 i = w.2.2.1 4 i) (h5 : F w1 5 = F w 5) (k : Int) : byI w1 k = byI w k := by unfold byI; rw [h5, h4]
theorem RDI_tok (h : RDI u w tn p bw) (f : FR [14, 17, 20] [] [12, 13, 15, 16, 18, 19] [] w w1) (hm : F w 14 ≤ F w1 14 ∧ F w 17 ≤ F w1 17 ∧ F w 20 ≤ F w1 20) (he : bw tn + 1 ≤ e ∧ (e : Int) ≤ p2 ∧ (e : Int) ≤ F w 5 ∧ p2 ≤ F w 5 + 1) (hs : 1 ≤ s ∧ s ≤ 7 ∧ (s = 1 → 0 ≤ y ∧ y < F w1 14) ∧ (s = 2 → 0 ≤ y ∧ y < F w1 17) ∧ (s = 3 → 0 ≤ y ∧ y ≤ 14) ∧ (s = 5 → 0 ≤ y ∧ y < F w1 20)) (hb : (s = 3 → y = 6 ∨ y = 7 → bw tn + 3 ≤ e) ∧ (s = 6 → y = 10 → bw tn + 2 ≤ e) ∧ (s = 5 → bw tn + 2 ≤ e) ∧ (s = 3 → y = 6 → bw tn + 4 ≤ e + nu w tn)) (hn : s ≤ 4 → ¬ inB (byI w e)) (ry : RG y) (h5 : 0 ≤ F w 5 ∧ F w 5 ≤ 4000) (ht : x = wi (tkn w1 s y) 10 p2) (tb : TBI x p2) : RDI u x (tn + 1) p2 (fun i => if i ≤ tn then bw i else e) := by
  obtain ⟨a1, ⟨a2, a3⟩, ⟨a4, a5⟩, a6, a7, a8⟩ := h
  have tl := TKI_le a5 a4 tn (Nat.le_refl _)
  have f9 : F w1 9 = ((tn : Nat) : Int) := (f.F (by decide)).trans a2
  have f5 : F w1 5 = F w 5 := f.F (by decide)
  have xF : ∀ k, k ≠ 9 → k ≠ 10 → F x k = F w1 k := fun k h1 h2 => by
    rw [ht, wi_ne h2]; unfold tkn; rw [wi_ne h1, F_wa, F_wa, F_wa]
  have x9 : F x 9 = ((tn + 1 : Nat) : Int) := by
    rw [ht, wi_ne (by decide)]; unfold tkn; rw [wi_eq ⟨by omega, by omega⟩]; omega
  have x10 : F x 10 = p2 := by rw [ht]; exact wi_eq ⟨by omega, by omega⟩
  have et : (F w1 9).toNat = tn := by omega
  have xA : ∀ r j, r ≠ 6 → r ≠ 7 → r ≠ 8 → x.2.2.1 r j = w1.2.2.1 r j := fun r j h1 h2 h3 => by
    rw [ht]; unfold tkn
    show (if r = 8 then _ else (if r = 7 then _ else (if r = 6 then _ else w1.2.2.1 r))) j = _
    rw [if_neg h3, if_neg h2, if_neg h1]
  have xo : ∀ r j, j ≠ tn → A x r j = A w1 r j := fun r j hj => by
    rw [ht]; unfold tkn
    show A (wa (wa (wa w1 6 (F w1 9).toNat s) 7 (F w1 9).toNat y) 8 (F w1 9).toNat (F w1 11)) r j = _
    rw [et, wa_ne hj, wa_ne hj, wa_ne hj]
  have x6 : A x 6 tn = s := by
    rw [ht]; unfold tkn
    show A (wa (wa (wa w1 6 (F w1 9).toNat s) 7 (F w1 9).toNat y) 8 (F w1 9).toNat (F w1 11)) 6 tn = _
    rw [et, wa_rne (by decide), wa_rne (by decide)]; exact wa_eq ⟨by omega, by omega⟩
  have x7 : A x 7 tn = y := by
    rw [ht]; unfold tkn
    show A (wa (wa (wa w1 6 (F w1 9).toNat s) 7 (F w1 9).toNat y) 8 (F w1 9).toNat (F w1 11)) 7 tn = _
    rw [et, wa_rne (by decide)]; exact wa_eq ry
  have wA : ∀ r j, r ∈ [6, 7] → A w1 r j = A w r j := fun r j hr => f.A (by
    have : ∀ r, r ∈ [6, 7] → r ∉ [12, 13, 15, 16, 18, 19] := by decide
    exact this r hr)
  have xn : ∀ i, i ≤ tn → nu x i = nu w i := fun i hi => by
    unfold nu
    split
    · rfl
    · rw [xo 6 (i - 1) (by omega), wA 6 _ (by decide)]
  have by5 : ∀ k, byI x k = byI w k := byI_fr (fun i => (xA 4 i (by decide) (by decide) (by decide)).trans (by
    have := f.2.2.1 4 (by decide)
    rw [this])) ((xF 5 (by decide) (by decide)).trans f5)
  have fx : FR [9, 10, 11, 14, 17, 20] [] [6, 7, 8, 12, 13, 15, 16, 18, 19] [] w1 x := by
    rw [ht]; unfold tkn
    exact FR.wi (FR.wi (FR.wa (FR.wa (FR.wa FR.rf (by decide)) (by decide)) (by decide)) (by decide)) (by decide)
  refine ⟨FR.tr (FR.tr a1 (FR.mo f (by decide) (by decide) (by decide) (by decide))) fx, ⟨x9, x10⟩, ⟨by simp only [Nat.zero_le, if_true]; exact a4, fun i hi => ?_⟩, ?_, fun _ q => ?_, tb⟩
  · by_cases z : i < tn
    · simp only [show i ≤ tn by omega, show i + 1 ≤ tn by omega, if_true]
      rw [xo 6 i (by omega), xo 7 i (by omega), wA 6 i (by decide), wA 7 i (by decide), xn i (by omega), xF 14 (by decide) (by decide), xF 17 (by decide) (by decide), xF 20 (by decide) (by decide)]
      obtain ⟨⟨b1, b2, b3, b4, b5, b6⟩, b7⟩ := a5 i z
      exact ⟨⟨b1, b2, fun q => by have := b3 q; omega, fun q => by have := b4 q; omega, b5, fun q => by have := b6 q; omega⟩, b7⟩
    · obtain rfl : i = tn := by omega
      simp only [Nat.le_refl, if_true, show ¬ (i + 1 ≤ i) by omega, if_false]
      rw [x6, x7, xn i (Nat.le_refl _), xF 14 (by decide) (by decide), xF 17 (by decide) (by decide), xF 20 (by decide) (by decide)]
      exact ⟨hs, he.1, hb⟩
  · simp only [show ¬ (tn + 1 ≤ tn) by omega, if_false]
    rw [xF 5 (by decide) (by decide), f5]; omega
  · simp only [show ¬ (tn + 1 ≤ tn) by omega, if_false]
    rw [by5]
    rw [Nat.add_sub_cancel, x6] at q
    exact hn q.2
end
end
