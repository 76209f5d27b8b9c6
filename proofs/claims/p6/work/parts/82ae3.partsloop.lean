def CHY (TN SN σ R0 many : Nat) (B o xb l : Int) (k : Nat) (u v : MS) : Prop := F v 72 = 0 → F v 66 = 0 → TN ≤ 1500 → ∃ (μ : Nat → Nat → Nat) (r : Nat → Nat) (mm X Y : Nat), CHD v SN false ((R0 : Nat) : Int) k μ r many B.toNat mm X Y (hlo σ v) ∧ (μ 0 = mks u ∧ μ k = mks v) ∧ RLS v k r ∧ (0 < k → A v 28 R0 = ((r (k - 1) : Nat) : Int) ∧ l = ((μ (k - 1) 1 : Nat) : Int)) ∧ mm ≤ 40 ∧ (mm : Int) ≤ A v 64 σ ∧ 2 * (X : Int) ≤ xb ∧ (Y : Int) + o ≤ 25
def RTL (v : MS) (o n : Int) (R0 : Nat) : Prop := ∃ l, CHL v (F v 32).toNat (A v 28 R0) l ∧ ∀ r, r ∈ l → RTD v (25 - o).toNat n.toNat r
def PRS (u0 : MS) (TN SN : Nat) (bw : Nat → Nat) (σ R0 many : Nat) (B z p o n q c f h s wt : Int) (u v : MS) (k : Nat) (l p1 : Int) : Prop := F v 67 = 0 ∧ ∃ n1 q1 c1 f1 h1 : Int, ST u0 σ p1 o n1 q1 c1 f1 h1 s wt 0 v ∧ KPR σ (wa u 28 R0 (A v 28 R0)) v ∧ p1 ≤ TN ∧ DLT bw z 0 0 p n q c f h p1 n1 q1 c1 f1 h1 ∧ RTL v o n R0 ∧ (A v 60 σ = B ∧ (k = 0 → l = -1 ∧ A v 28 R0 = -1 ∧ c1 = c) ∧ (0 < k → c ≤ l ∧ l < c1 ∧ A v 45 l.toNat = -1 ∧ p + 3 ≤ p1)) ∧ CHY TN SN σ R0 many B o (p1 - p + 1) l k u v
section
variable {Q : MS → Int32 → Prop} {u0 u v w x : MS} {N σ TN SN e R0 many k : Nat} {bw : Nat → Nat} {p o n q c f h s wt g D d B l p1 z : Int} {r v1 v3 v4 : Int32} {S : SG_M_behind}
theorem CHL_mo {b b2 : Nat} (h : b ≤ b2) : ∀ (l : List Nat) (x : Int), CHL w b x l → CHL w b2 x l := by
  intro l x hl
  cases l with
  | nil => exact hl
  | cons r l => exact ⟨hl.1, by have := hl.2.1; omega, hl.2.2⟩
theorem CHL_ag : ∀ (l : List Nat) (b : Nat) (x : Int), CHL v b x l → (∀ i, i < b → A w 29 i = A v 29 i) → CHL w b x l ∧ ∀ r, r ∈ l → r < b := by
  intro l
  induction l with
  | nil => intro b x hl _; exact ⟨hl, fun r hr => by cases hr⟩
  | cons t l ih =>
    intro b x hl ha
    obtain ⟨h1, h2, h3⟩ := hl
    obtain ⟨i1, i2⟩ := ih t _ h3 (fun i hi => ha i (by omega))
    refine ⟨⟨h1, h2, by rw [ha t h2]; exact i1⟩, fun r hr => ?_⟩
    rcases List.mem_cons.mp hr with z | z
    · omega
    · have := i2 r z; omega
theorem CHY_add {n1 q1 c1 f1 h1 p2 n2 q2 c2 f2 h2 : Int} (ev : F v 32 = n1 ∧ F v 46 = c1 ∧ 0 ≤ n1 ∧ 0 ≤ c1) (hv : CHY TN SN σ R0 many B o (p1 - p + 1) l k u v) (hu : F u 32 = n ∧ (R0 : Int) < n) (hk0 : k = 0 → A v 28 R0 = -1) (hkx : KPR σ (wa v 28 R0 e) x) (re : RG ((e : Nat) : Int)) (h29 : A x 29 e = A v 28 R0) (x45 : A x 45 c1.toNat = -1) (hl : 0 < k → 0 ≤ l ∧ l < c1) (pry : PRY TN SN σ R0 many B o (p2 - p1 + 1) v x e) (hp : p ≤ p1 ∧ p1 ≤ p2) (hx : (k = 0 ∧ w = x) ∨ (0 < k ∧ w = wa x 45 l.toNat c1)) (hnn : n ≤ n1) (rc : RG c1) : CHY TN SN σ R0 many B o (p2 - p + 1) c1 (k + 1) u w := by
  intro z1 z2 z3
  obtain ⟨e32, e46, n0, c0⟩ := ev
  have wF : ∀ t, F w t = F x t := fun t => by
    rcases hx with ⟨-, y⟩ | ⟨-, y⟩
    · rw [y]
    · rw [y, F_wa]
  have wA : ∀ t i, (t = 45 → 0 < k → i ≠ l.toNat) → A w t i = A x t i := fun t i ht => by
    rcases hx with ⟨-, y⟩ | ⟨y0, y⟩
    · rw [y]
    · rw [y]
      by_cases z : t = 45
      · exact wa_ne (ht z y0)
      · exact wa_rne z
  have x1 := hkx.2.2.2.2.2.1 (by rw [← wF]; exact z1)
  have x2 := hkx.2.2.2.2.2.2 (by rw [← wF]; exact z2)
  obtain ⟨μ, rr, mm, X, Y, ch, ⟨m0, mk⟩, rl, lk, g1, g2, g3, g4⟩ := hv x1 x2 z3
  obtain ⟨mm2, X2, Y2, pt, t1, t2, t3, t4⟩ := pry (by rw [← wF]; exact z1) (by rw [← wF]; exact z2) z3
  have mw : mks w = mks x := mks_c (fun t _ => wF t)
  have kn := KPR_n hkx
  have h0 : hlo σ (wa v 28 R0 e) = hlo σ v := by unfold hlo; rw [wa_rne (by decide)]
  have h6 : A (wa v 28 R0 e) 64 σ = A v 64 σ := wa_rne (by decide)
  have hw : hlo σ w = hlo σ x := by unfold hlo; rw [wA 63 σ (fun z => by omega)]
  have w6 : A w 64 σ = A x 64 σ := wA 64 σ (fun z => by omega)
  rw [h0, h6] at kn
  have le : ∀ j t, j ≤ k → μ 0 t ≤ μ j t ∧ μ j t ≤ mks v t := fun j t hj => by
    have q1 := CHD_le ch j 0 (by omega) t
    have q2 := CHD_le ch (k - j) j (by omega) t
    rw [Nat.zero_add] at q1
    rw [show j + (k - j) = k by omega, mk] at q2
    exact ⟨q1, q2⟩
  have u0' : μ 0 0 = n.toNat := by rw [m0]; show (F u 32).toNat = _; rw [hu.1]
  have v0 : mks v 0 = n1.toNat := by show (F v 32).toNat = _; rw [e32]
  have v1' : mks v 1 = c1.toNat := by show (F v 46).toNat = _; rw [e46]
  have m28 : ∀ t, t ∈ [40, 41, 42, 43, 45] → t ≠ 28 := by decide
  have m33 : ∀ t, t ∈ [33, 35, 36, 37, 38] → t ≠ 28 ∧ t ≠ 45 := by decide
  have m53 : ∀ t, t ∈ [53, 54, 55] → t ≠ 28 ∧ t ≠ 45 := by decide
  have m23 : ∀ t, t ∈ [23, 24, 25, 26, 27, 28, 29, 30, 31] → t ≠ 45 := by decide
  have xr : ∀ (t i : Nat), t ∈ [23, 24, 25, 26, 27, 28, 29, 30, 31] → (i : Int) < n1 → (t = 28 → i ≠ R0) → A w t i = A v t i := fun t i ht hi hne => by
    rw [wA t i (fun z => absurd z (m23 t ht)), hkx.2.1.1 t i ht (by rw [F_wa, e32]; exact hi)]
    by_cases z : t = 28
    · exact wa_ne (hne z)
    · exact wa_rne z
  have xc : ∀ (t i : Nat), t ∈ [40, 41, 42, 43, 45] → (i : Int) < c1 → (t = 45 → 0 < k → i ≠ l.toNat) → A w t i = A v t i := fun t i ht hi hne => by
    rw [wA t i hne, hkx.2.1.2.2.1 t i ht (by rw [F_wa, e46]; exact hi), wa_rne (m28 t ht)]
  have lt1 : ∀ j, j < k → μ j 1 < μ (j + 1) 1 := fun j hj => (PTD_le (ch.1 j hj)).2.2.1
  have ptw : PTD w SN false ((R0 : Nat) : Int) (mks v) (mks x) many B.toNat mm2 X2 Y2 (hlo σ x) e := by
    refine PTD_ag pt ⟨wF 14, fun t i ht _ _ _ => wA t i (fun z => absurd z (m23 t ht)), fun t i ht h1 _ _ => wA t i (fun z y => ?_), fun t i ht _ => wA t i (fun z => absurd z (m33 t ht).2), fun t i ht _ _ => wA t i (fun z => absurd z (m53 t ht).2), fun i _ => wA 57 i (fun z => by omega)⟩
    have := hl y
    omega
  have ple := PTD_le pt
  refine ⟨fun j => if j ≤ k then μ j else mks w, fun j => if j < k then rr j else e, max mm mm2, max X X2, max Y Y2, ⟨fun j hj => ?_, fun j hj => ?_, fun _ => ?_⟩, ⟨?_, ?_⟩, fun j hj => ⟨fun y => ?_, fun y => ?_⟩, fun _ => ⟨?_, ?_⟩, by omega, by omega, by omega, by omega⟩
  · by_cases y : j < k
    · simp only [show j ≤ k by omega, show j + 1 ≤ k by omega, y, if_true]
      refine PTD_mo (PTD_ag (ch.1 j y) ⟨?_, fun t i ht h1 h2 _ => xr t i ht ?_ (fun _ => ?_), fun t i ht h1 h2 h3 => xc t i ht ?_ (fun z y0 => ?_), fun t i ht h2 => ?_, fun t i ht h1 h2 => ?_, fun i h2 => ?_⟩) (Nat.le_max_left _ _) (Nat.le_max_left _ _) (Nat.le_max_left _ _) (by omega)
      · rw [wF 14]; exact hkx.1.F (by decide)
      · have := (le (j + 1) 0 (by omega)).2; omega
      · have := (le j 0 (by omega)).1; omega
      · have := (le (j + 1) 1 (by omega)).2; omega
      · have h4 := (lk y0).2
        have h5 := h3 z
        by_cases q : j = k - 1
        · rw [← q] at h4; omega
        · have q1 := CHD_le ch (k - 1 - (j + 1)) (j + 1) (by omega) 1
          rw [show j + 1 + (k - 1 - (j + 1)) = k - 1 by omega] at q1
          omega
      · have := (le (j + 1) 2 (by omega)).2
        have e2 : mks v 2 = (F v 39).toNat := rfl
        rw [wA t i (fun z => absurd z (m33 t ht).2), hkx.2.1.2.1 t i ht (by rw [F_wa]; omega), wa_rne (m33 t ht).1]
      · have := (le (j + 1) 3 (by omega)).2
        have e2 : mks v 3 = (F v 56).toNat := rfl
        rw [wA t i (fun z => absurd z (m53 t ht).2), hkx.2.1.2.2.2.1 t i ht (by rw [F_wa]; omega), wa_rne (m53 t ht).1]
      · have := (le (j + 1) 4 (by omega)).2
        have e2 : mks v 4 = (F v 58).toNat := rfl
        rw [wA 57 i (fun z => by omega), hkx.2.1.2.2.2.2 i (by rw [F_wa]; omega), wa_rne (by decide)]
    · obtain rfl : j = k := by omega
      simp only [Nat.le_refl, if_true, show ¬ (j + 1 ≤ j) by omega, if_false, Nat.lt_irrefl]
      rw [mw, mk, hw]
      exact PTD_mo ptw (Nat.le_max_right _ _) (Nat.le_max_right _ _) (Nat.le_max_right _ _) (Nat.le_refl _)
  · simp only [show j ≤ k by omega, show j + 1 ≤ k by omega, if_true]
    have y0 : 0 < k := by omega
    have h4 := (lk y0).2
    by_cases y : j + 1 < k
    · rw [xc 45 _ (by decide) (by have := (le j 1 (by omega)).2; have := lt1 j (by omega); have := (le (j + 1) 1 (by omega)).2; omega) (fun _ _ => ?_)]
      · exact ch.2.1 j y
      · have q1 := CHD_le ch (k - 1 - (j + 1)) (j + 1) (by omega) 1
        rw [show j + 1 + (k - 1 - (j + 1)) = k - 1 by omega] at q1
        have := lt1 j (by omega)
        omega
    · obtain rfl : j = k - 1 := by omega
      rw [show k - 1 + 1 = k by omega, mk, v1']
      rcases hx with ⟨y, -⟩ | ⟨-, y⟩
      · omega
      · rw [y, show μ (k - 1) 1 = l.toNat by omega, wa_eq rc]; omega
  · simp only [Nat.add_sub_cancel, Nat.le_refl, if_true]
    rw [mk, v1', wA 45 _ (fun _ y => by have := hl y; omega)]
    exact x45
  · simp only [Nat.zero_le, if_true]; exact m0
  · simp only [show ¬ (k + 1 ≤ k) by omega, if_false]
  · by_cases q : j < k
    · simp only [q, if_true]
      have := CHD_r ch q
      rw [xr 29 _ (by decide) (by rw [mk] at this; omega) (fun z => by omega)]
      exact (rl j q).1 y
    · simp only [q, if_false]
      rw [wA 29 _ (fun z => by omega), h29]
      exact hk0 (by omega)
  · by_cases q : j < k
    · simp only [q, show j - 1 < k by omega, if_true]
      have := CHD_r ch q
      rw [xr 29 _ (by decide) (by rw [mk] at this; omega) (fun z => by omega)]
      exact (rl j q).2 y
    · simp only [q, show j - 1 < k by omega, if_false, if_true]
      rw [wA 29 _ (fun z => by omega), h29, show j - 1 = k - 1 by omega]
      exact (lk (by omega)).1
  · simp only [Nat.add_sub_cancel, Nat.lt_irrefl, if_false]
    rw [wA 28 _ (fun z => by omega), hkx.2.1.1 28 R0 (by decide) (by rw [F_wa, e32]; omega)]
    exact wa_eq re
  · simp only [Nat.add_sub_cancel, Nat.le_refl, if_true]
    rw [mk, v1']; omega
end
