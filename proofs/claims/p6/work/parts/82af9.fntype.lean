def EQY (V X : MS) : Prop := F X 14 = F V 14 ∧ (∀ r i : Nat, r ∈ [23, 24, 25, 26, 27, 28, 29, 30, 31] → (i : Int) < F V 32 → A X r i = A V r i) ∧ (∀ r i : Nat, r ∈ [40, 41, 42, 43, 45] → (i : Int) < F V 46 → A X r i = A V r i) ∧ (∀ r i : Nat, r ∈ [33, 35, 36, 37, 38] → (i : Int) < F V 39 → A X r i = A V r i) ∧ (∀ r i : Nat, r ∈ [53, 54, 55] → (i : Int) < F V 56 → A X r i = A V r i) ∧ (∀ i : Nat, (i : Int) < F V 58 → A X 57 i = A V 57 i) ∧ (F V 32 ≤ F X 32 ∧ F V 46 ≤ F X 46 ∧ F V 39 ≤ F X 39 ∧ F V 56 ≤ F X 56 ∧ F V 58 ≤ F X 58)
def FCY (SN : Nat) (a b : Nat → Nat) (v : MS) (k many : Nat) (l : Int) : Prop := ∃ (μ : Nat → Nat → Nat) (r : Nat → Nat) (mm X Y : Nat), CHD v SN true (-1) k μ r many 0 mm X Y 0 ∧ (μ 0 = a ∧ μ k = b) ∧ (∀ j, j < k → A v 29 (r j) = -1) ∧ (0 < k → l = ((μ (k - 1) 1 : Nat) : Int)) ∧ mm ≤ 40 ∧ X ≤ 750 ∧ Y ≤ 25
def FNT (w : MS) (SN g : Nat) (Bd : Nat → Nat → Nat) : Prop := (∀ i, Bd 0 i = 0) ∧ ∀ f, f < g → (∀ i, Bd f i ≤ Bd (f + 1) i) ∧ ∃ (many k : Nat) (l : Int), 0 < k ∧ A w 48 f = ((many : Nat) : Int) ∧ A w 50 f = ((Bd f 1 : Nat) : Int) ∧ FCY SN (Bd f) (Bd (f + 1)) w k many l
section
variable {u v w x V X : MS} {σ SN k many e g TN : Nat} {l c1 : Int} {a b : Nat → Nat} {Bd : Nat → Nat → Nat}
theorem EQY_rf : EQY v v := ⟨rfl, fun _ _ _ _ => rfl, fun _ _ _ _ => rfl, fun _ _ _ _ => rfl, fun _ _ _ _ => rfl, fun _ _ => rfl, Int.le_refl _, Int.le_refl _, Int.le_refl _, Int.le_refl _, Int.le_refl _⟩
theorem EQY_tr (a : EQY v w) (b : EQY w x) : EQY v x := by
  obtain ⟨a1, a2, a3, a4, a5, a6, a8⟩ := a
  obtain ⟨b1, b2, b3, b4, b5, b6, b8⟩ := b
  exact ⟨b1.trans a1, fun r i hr h2 => (b2 r i hr (by omega)).trans (a2 r i hr h2), fun r i hr h2 => (b3 r i hr (by omega)).trans (a3 r i hr h2), fun r i hr h2 => (b4 r i hr (by omega)).trans (a4 r i hr h2), fun r i hr h2 => (b5 r i hr (by omega)).trans (a5 r i hr h2), fun i h2 => (b6 i (by omega)).trans (a6 i h2), by omega⟩
theorem EQY_kp (k : KPR σ v w) : EQY v w := by
  obtain ⟨a0, ⟨a1, a2, a3, a4, a5⟩, -, -, a13, -⟩ := k
  exact ⟨a0.F (by decide), a1, a3, a2, a4, a5, by omega⟩
theorem EQY_fr {is as js : List Nat} (f : FR is [] as js v w) (h1 : ∀ k, k ∈ [14, 32, 46, 39, 56, 58] → k ∉ is) (h2 : ∀ k, k ∈ [23, 24, 25, 26, 27, 28, 29, 30, 31, 40, 41, 42, 43, 45, 33, 35, 36, 37, 38, 53, 54, 55, 57] → k ∉ as) : EQY v w := by
  have e : ∀ k, k ∈ [14, 32, 46, 39, 56, 58] → F w k = F v k := fun k hk => f.F (h1 k hk)
  have m1 : ∀ r, r ∈ [23, 24, 25, 26, 27, 28, 29, 30, 31] → r ∈ [23, 24, 25, 26, 27, 28, 29, 30, 31, 40, 41, 42, 43, 45, 33, 35, 36, 37, 38, 53, 54, 55, 57] := by decide
  have m2 : ∀ r, r ∈ [40, 41, 42, 43, 45] → r ∈ [23, 24, 25, 26, 27, 28, 29, 30, 31, 40, 41, 42, 43, 45, 33, 35, 36, 37, 38, 53, 54, 55, 57] := by decide
  have m3 : ∀ r, r ∈ [33, 35, 36, 37, 38] → r ∈ [23, 24, 25, 26, 27, 28, 29, 30, 31, 40, 41, 42, 43, 45, 33, 35, 36, 37, 38, 53, 54, 55, 57] := by decide
  have m4 : ∀ r, r ∈ [53, 54, 55] → r ∈ [23, 24, 25, 26, 27, 28, 29, 30, 31, 40, 41, 42, 43, 45, 33, 35, 36, 37, 38, 53, 54, 55, 57] := by decide
  refine ⟨e 14 (by decide), fun r i hr _ => f.A (h2 r (m1 r hr)), fun r i hr _ => f.A (h2 r (m2 r hr)), fun r i hr _ => f.A (h2 r (m3 r hr)), fun r i hr _ => f.A (h2 r (m4 r hr)), fun i _ => f.A (h2 57 (by decide)), ?_⟩
  rw [e 32 (by decide), e 46 (by decide), e 39 (by decide), e 56 (by decide), e 58 (by decide)]; omega
theorem EQY_mk (e : EQY V X) : ∀ i, mks V i ≤ mks X i := fun i => by
  obtain ⟨-, -, -, -, -, -, a8⟩ := e
  unfold mks
  split
  · omega
  · split
    · omega
    · split
      · omega
      · split
        · omega
        · omega
theorem CHD_eqy {m mm XX Y sh : Nat} {μ : Nat → Nat → Nat} {r : Nat → Nat} {root : Int} {y : Int} {i0 : Nat} (s : CHD V SN true root k μ r many m mm XX Y sh) (e : EQY V X) (hb : ∀ i, μ k i ≤ mks V i) (hw : w = X ∨ w = wa X 45 i0 y) (hi : (0 < k → i0 = μ (k - 1) 1) ∨ μ k 1 ≤ i0 ∨ i0 < μ 0 1) (j : Nat) (hj : j < k) : PTD w SN true root (μ j) (μ (j + 1)) many m mm XX Y sh (r j) := by
  obtain ⟨a1, a2, a3, a4, a5, a6, -⟩ := e
  have m0 : mks V 0 = (F V 32).toNat := rfl
  have m1 : mks V 1 = (F V 46).toNat := rfl
  have m2 : mks V 2 = (F V 39).toNat := rfl
  have m3 : mks V 3 = (F V 56).toNat := rfl
  have m4 : mks V 4 = (F V 58).toNat := rfl
  have le : ∀ j t, j ≤ k → μ 0 t ≤ μ j t ∧ μ j t ≤ μ k t := fun j t hj => by
    have q1 := CHD_le s j 0 (by omega) t
    have q2 := CHD_le s (k - j) j (by omega) t
    rw [Nat.zero_add] at q1
    rw [show j + (k - j) = k by omega] at q2
    exact ⟨q1, q2⟩
  have b0 := le (j + 1) 0 (by omega)
  have b1 := le (j + 1) 1 (by omega)
  have b1' := le j 1 (by omega)
  have b2 := le (j + 1) 2 (by omega)
  have b3 := le (j + 1) 3 (by omega)
  have b4 := le (j + 1) 4 (by omega)
  have h0 := hb 0
  have h1 := hb 1
  have h2 := hb 2
  have h3 := hb 3
  have h4 := hb 4
  have wF : ∀ t, F w t = F X t := fun t => by
    rcases hw with z | z
    · rw [z]
    · rw [z, F_wa]
  have wA : ∀ t i, (t = 45 → i ≠ i0) → A w t i = A X t i := fun t i ht => by
    rcases hw with z | z
    · rw [z]
    · rw [z]
      by_cases q : t = 45
      · exact wa_ne (ht q)
      · exact wa_rne q
  have n1 : ∀ r, r ∈ [23, 24, 25, 26, 27, 28, 29, 30, 31] → r ≠ 45 := by decide
  have n2 : ∀ r, r ∈ [33, 35, 36, 37, 38] → r ≠ 45 := by decide
  have n3 : ∀ r, r ∈ [53, 54, 55] → r ≠ 45 := by decide
  refine PTD_ag (s.1 j hj) ⟨(wF 14).trans a1, fun r i hr _ h2 _ => (wA r i (fun z => absurd z (n1 r hr))).trans (a2 r i hr (by omega)), fun r i hr g1 g2 g3 => (wA r i (fun z => ?_)).trans (a3 r i hr (by omega)), fun r i hr h2 => (wA r i (fun z => absurd z (n2 r hr))).trans (a4 r i hr (by omega)), fun r i hr _ h2 => (wA r i (fun z => absurd z (n3 r hr))).trans (a5 r i hr (by omega)), fun i h2 => (wA 57 i (fun z => absurd z (by decide))).trans (a6 i (by omega))⟩
  have g4 := g3 z
  rcases hi with hi | hi | hi
  · have h5 := hi (by omega)
    by_cases q : j = k - 1
    · rw [← q] at h5; omega
    · have q1 := CHD_le s (k - 1 - (j + 1)) (j + 1) (by omega) 1
      rw [show j + 1 + (k - 1 - (j + 1)) = k - 1 by omega] at q1
      omega
  · omega
  · omega
theorem FNT_eqy {y : Int} {i0 : Nat} (h : FNT V SN g Bd) (e : EQY V X) (hb : ∀ i, Bd g i ≤ mks V i) (hw : w = X ∨ (w = wa X 45 i0 y ∧ Bd g 1 ≤ i0)) (h48 : ∀ f, f < g → A X 48 f = A V 48 f ∧ A X 50 f = A V 50 f) : FNT w SN g Bd := by
  obtain ⟨h0, h1⟩ := h
  have le : ∀ d f, f + d = g → ∀ i, Bd f i ≤ Bd g i := by
    intro d
    induction d with
    | zero => intro f hf i; obtain rfl : f = g := by omega
              exact Nat.le_refl _
    | succ d ih => intro f hf i; exact Nat.le_trans ((h1 f (by omega)).1 i) (ih (f + 1) (by omega) i)
  have wA : ∀ t i, t ≠ 45 → A w t i = A X t i := fun t i ht => by
    rcases hw with z | z
    · rw [z]
    · rw [z.1]; exact wa_rne ht
  refine ⟨h0, fun f hf => ?_⟩
  obtain ⟨b1, many, k, l, b2, b3, b4, μ, r, mm, X1, Y, c1, ⟨c2, c3⟩, c4, c5, c6⟩ := h1 f hf
  have lf := le (g - (f + 1)) (f + 1) (by omega)
  have bv : ∀ i, μ k i ≤ mks V i := fun i => by rw [c3]; exact Nat.le_trans (lf i) (hb i)
  have hw' : w = X ∨ w = wa X 45 i0 y := by
    rcases hw with z | z
    · exact Or.inl z
    · exact Or.inr z.1
  have m0 : mks V 0 = (F V 32).toNat := rfl
  have m1 : mks V 1 = (F V 46).toNat := rfl
  have b0v := bv 0
  have b1v := bv 1
  have lf1 := lf 1
  have wc : ∀ i : Nat, i < μ k 1 → A w 45 i = A V 45 i := fun i hi => by
    have e3 := e.2.2.1 45 i (by decide) (by omega)
    rcases hw with z | ⟨z, z2⟩
    · rw [z]; exact e3
    · rw [z, wa_ne (by rw [c3] at hi; omega)]; exact e3
  have lek : ∀ j, j ≤ k → μ j 1 ≤ μ k 1 := fun j hj => by
    have q2 := CHD_le c1 (k - j) j (by omega) 1
    rw [show j + (k - j) = k by omega] at q2
    exact q2
  refine ⟨b1, many, k, l, b2, by rw [wA 48 f (by decide), (h48 f hf).1]; exact b3, by rw [wA 50 f (by decide), (h48 f hf).2]; exact b4, μ, r, mm, X1, Y, ⟨fun j hj => ?_, fun j hj => ?_, fun y => ?_⟩, ⟨c2, c3⟩, fun j hj => ?_, c5, c6⟩
  · rcases hw with z | ⟨z, z2⟩
    · exact CHD_eqy (i0 := μ k 1) (y := y) c1 e bv (Or.inl z) (Or.inr (Or.inl (Nat.le_refl _))) j hj
    · exact CHD_eqy c1 e bv hw' (Or.inr (Or.inl (by rw [c3]; omega))) j hj
  · have pl := (PTD_le (c1.1 j (by omega))).2.2.1
    have := lek (j + 1) (by omega)
    rw [wc _ (by omega)]; exact c1.2.1 j hj
  · have pl := (PTD_le (c1.1 (k - 1) (by omega))).2.2.1
    rw [show k - 1 + 1 = k by omega] at pl
    rw [wc _ (by omega)]; exact c1.2.2 y
  · have := CHD_r c1 hj
    rw [wA 29 _ (by decide), e.2.1 29 _ (by decide) (by omega)]
    exact c4 j hj
theorem FCY_add {mm2 X2 Y2 : Nat} (h : FCY SN a (mks v) v k many l) (e : EQY v x) (pt : PTD x SN true (-1) (mks v) (mks x) many 0 mm2 X2 Y2 0 g) (h29 : A x 29 g = -1) (x45 : A x 45 (mks v 1) = -1) (hw : (k = 0 ∧ w = x) ∨ (0 < k ∧ w = wa x 45 l.toNat ((mks v 1 : Nat) : Int))) (hb : mm2 ≤ 40 ∧ X2 ≤ 750 ∧ Y2 ≤ 25) (rc : RG ((mks v 1 : Nat) : Int)) : FCY SN a (mks x) w (k + 1) many ((mks v 1 : Nat) : Int) := by
  obtain ⟨μ, r, mm, X, Y, ch, ⟨m0, mk⟩, hr, hl, b1, b2, b3⟩ := h
  have wA : ∀ t i, (t = 45 → 0 < k → i ≠ l.toNat) → A w t i = A x t i := fun t i ht => by
    rcases hw with ⟨-, y⟩ | ⟨y0, y⟩
    · rw [y]
    · rw [y]
      by_cases z : t = 45
      · exact wa_ne (ht z y0)
      · exact wa_rne z
  have wF : ∀ t, F w t = F x t := fun t => by
    rcases hw with ⟨-, y⟩ | ⟨-, y⟩
    · rw [y]
    · rw [y, F_wa]
  have bv : ∀ i, μ k i ≤ mks v i := fun i => by rw [mk]; exact Nat.le_refl _
  have m0v : mks v 0 = (F v 32).toNat := rfl
  have m1v : mks v 1 = (F v 46).toNat := rfl
  have lt1 : ∀ j, j < k → μ j 1 < μ (j + 1) 1 := fun j hj => (PTD_le (ch.1 j hj)).2.2.1
  have lek : ∀ j, j ≤ k → μ j 1 ≤ mks v 1 := fun j hj => by
    have q2 := CHD_le ch (k - j) j (by omega) 1
    rw [show j + (k - j) = k by omega, mk] at q2
    exact q2
  have lb : 0 < k → l.toNat < mks v 1 ∧ l.toNat = μ (k - 1) 1 := fun y => by
    have h1 := hl y
    have h2 := lt1 (k - 1) (by omega)
    rw [show k - 1 + 1 = k by omega, mk] at h2
    omega
  have hw' : w = x ∨ w = wa x 45 l.toNat ((mks v 1 : Nat) : Int) := by
    rcases hw with z | z
    · exact Or.inl z.2
    · exact Or.inr z.2
  have ptw : PTD w SN true (-1) (mks v) (mks x) many 0 mm2 X2 Y2 0 g := by
    have n1 : ∀ r, r ∈ [23, 24, 25, 26, 27, 28, 29, 30, 31] → r ≠ 45 := by decide
    have n2 : ∀ r, r ∈ [33, 35, 36, 37, 38] → r ≠ 45 := by decide
    have n3 : ∀ r, r ∈ [53, 54, 55] → r ≠ 45 := by decide
    refine PTD_ag pt ⟨wF 14, fun t i ht _ _ _ => wA t i (fun z => absurd z (n1 t ht)), fun t i ht h1 _ _ => wA t i (fun z y => ?_), fun t i ht _ => wA t i (fun z => absurd z (n2 t ht)), fun t i ht _ _ => wA t i (fun z => absurd z (n3 t ht)), fun i _ => wA 57 i (fun z => absurd z (by decide))⟩
    have := lb y
    omega
  have wold : ∀ i : Nat, i < mks v 1 → (0 < k → i ≠ l.toNat) → A w 45 i = A v 45 i := fun i hi hn => by
    rw [wA 45 i (fun _ y => hn y), e.2.2.1 45 i (by decide) (by omega)]
  refine ⟨fun j => if j ≤ k then μ j else mks x, fun j => if j < k then r j else g, max mm mm2, max X X2, max Y Y2, ⟨fun j hj => ?_, fun j hj => ?_, fun _ => ?_⟩, ⟨?_, ?_⟩, fun j hj => ?_, fun _ => ?_, by omega, by omega, by omega⟩
  · by_cases y : j < k
    · simp only [show j ≤ k by omega, show j + 1 ≤ k by omega, y, if_true]
      exact PTD_mo (CHD_eqy ch e bv hw' (Or.inl (fun y => (lb y).2)) j y) (Nat.le_max_left _ _) (Nat.le_max_left _ _) (Nat.le_max_left _ _) (Nat.le_refl _)
    · obtain rfl : j = k := by omega
      simp only [Nat.le_refl, if_true, show ¬ (j + 1 ≤ j) by omega, if_false, Nat.lt_irrefl]
      rw [mk]
      exact PTD_mo ptw (Nat.le_max_right _ _) (Nat.le_max_right _ _) (Nat.le_max_right _ _) (Nat.le_refl _)
  · simp only [show j ≤ k by omega, show j + 1 ≤ k by omega, if_true]
    by_cases y : j + 1 < k
    · have h1 := lt1 j (by omega)
      have h2 := lek (j + 1) (by omega)
      rw [wold _ (by omega) (fun y0 => ?_)]
      · exact ch.2.1 j y
      · have q1 := CHD_le ch (k - 1 - (j + 1)) (j + 1) (by omega) 1
        rw [show j + 1 + (k - 1 - (j + 1)) = k - 1 by omega] at q1
        have := lb y0
        omega
    · obtain rfl : j = k - 1 := by omega
      rw [show k - 1 + 1 = k by omega, mk]
      rcases hw with ⟨y, -⟩ | ⟨y0, y⟩
      · omega
      · rw [y, ← (lb y0).2, wa_eq rc]
  · simp only [Nat.add_sub_cancel, Nat.le_refl, if_true]
    rw [mk, wA 45 _ (fun _ y => by have := lb y; omega)]
    exact x45
  · simp only [Nat.zero_le, if_true]; exact m0
  · simp only [show ¬ (k + 1 ≤ k) by omega, if_false]
  · by_cases q : j < k
    · simp only [q, if_true]
      have := CHD_r ch q
      rw [mk] at this
      rw [wA 29 _ (fun z => absurd z (by decide)), e.2.1 29 _ (by decide) (by omega)]
      exact hr j q
    · simp only [q, if_false]
      rw [wA 29 _ (fun z => absurd z (by decide))]; exact h29
  · simp only [Nat.add_sub_cancel, Nat.le_refl, if_true]
    rw [mk]
theorem FCY_eqy (h : FCY SN a (mks v) v k many l) (e : EQY v x) (hm : mks x = mks v) : FCY SN a (mks x) x k many l := by
  obtain ⟨μ, r, mm, X, Y, ch, ⟨m0, mk⟩, hr, hl, b1, b2, b3⟩ := h
  have bv : ∀ i, μ k i ≤ mks v i := fun i => by rw [mk]; exact Nat.le_refl _
  have m0v : mks v 0 = (F v 32).toNat := rfl
  have m1v : mks v 1 = (F v 46).toNat := rfl
  have lek : ∀ j, j ≤ k → μ j 1 ≤ mks v 1 := fun j hj => by
    have q2 := CHD_le ch (k - j) j (by omega) 1
    rw [show j + (k - j) = k by omega, mk] at q2
    exact q2
  refine ⟨μ, r, mm, X, Y, ⟨fun j hj => CHD_eqy (i0 := μ k 1) (y := 0) ch e bv (Or.inl rfl) (Or.inr (Or.inl (Nat.le_refl _))) j hj, fun j hj => ?_, fun y => ?_⟩, ⟨m0, mk.trans hm.symm⟩, fun j hj => ?_, hl, b1, b2, b3⟩
  · have pl := (PTD_le (ch.1 j (by omega))).2.2.1
    have := lek (j + 1) (by omega)
    rw [e.2.2.1 45 _ (by decide) (by omega)]; exact ch.2.1 j hj
  · have pl := (PTD_le (ch.1 (k - 1) (by omega))).2.2.1
    rw [show k - 1 + 1 = k by omega] at pl
    have := lek k (Nat.le_refl _)
    rw [e.2.2.1 45 _ (by decide) (by omega)]; exact ch.2.2 y
  · have := CHD_r ch hj
    rw [mk] at this
    rw [e.2.1 29 _ (by decide) (by omega)]; exact hr j hj
end
