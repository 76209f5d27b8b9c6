/-! one step, all nodes -/
set_option maxRecDepth 100000
section
variable {T : TYc} {Fv Fv' : Int64 → Int64 → Prop} {P : Int64 → Prop} {AN : Nat} {TT : TY} {CC : CY} {pM pE : Nat → Nat} {ND CN PN SN UN FN N PR p i v mu M1 M2 f U B W Y l j a n : Nat} {m w : MS} {Q : MS → Int32 → MS → Int32 → Prop} {b : Int → Nat → Nat → Prop} {ow kw ow' kd' : Nat → Nat} {nb : Nat → Nat} {Hs Os : Nat → List Nat} {y : Option (Nat × Nat × Nat)}
theorem WNa_18 (s : STx T Fv P Fv' AN TT CC pM pE ND CN PN SN UN FN N PR p i v f b U B W Y l ow kw ow' kd' j nb Hs Os y a n m w) (h23 : A w 23 n = 18) : tG TT n = 0 := by
  obtain ⟨-, -, -, -, ⟨-, n2, -⟩, -⟩ := st_b s
  exact (n2.2.2.2.2.2.2.1 h23).1
theorem KR_0 {Z : Option (MS × Int32)} {o : Option (MS × Unit)} : PP Q Z (bnd o (fun u _ => KRs Fv' AN TT CC ND CN UN FN N p mu 0 w u)) := by
  have e : ∀ u, KRs Fv' AN TT CC ND CN UN FN N p mu 0 w u = none := fun u => by
    unfold KRs
    have e2 : bnd (fm_M_allEnds N u) (fun u _ => gg_M_go N 0 u (I ((p : Nat) : Int))) = none := by
      cases fm_M_allEnds N u with
      | none => rfl
      | some y => rfl
    rw [e2]
    by_cases z : RSW Fv' AN TT CC ND CN UN FN p mu w u
    · exact rsc_t z
    · exact @if_neg _ (Classical.propDecidable _) z _ _ _
  cases o with
  | none => exact pp_nr
  | some y =>
    show PP Q Z (KRs Fv' AN TT CC ND CN UN FN N p mu 0 w y.1)
    rw [e]
    exact pp_nr
theorem ZR_b {C : Nat → Int} {R : Nat → Nat → Int} {J : Nat → Int64} {S : Option (Nat × Nat × Nat) → Nat → Nat → List Nat → List Nat → Prop} {kd sc g e : Nat} {c : Int} {H O : List Nat} (z : ZRs C R J S kd sc H O g e c) : e + 1 < 24000 := by
  cases g with
  | zero => exact z.elim
  | succ g => exact z.1
theorem sk_all (IH : ∀ K, K ≤ M2 → ∀ M1 v m w, SIA T Fv P Fv' AN TT CC pM pE ND CN PN SN UN FN p v m w → PP Q (qgo (SAf T Fv P p) N M1 m p (I ((v : Nat) : Int))) (gg_M_go N K w (I ((p : Nat) : Int)))) (s : STx T Fv P Fv' AN TT CC pM pE ND CN PN SN UN FN N PR p i v f b U B W Y l ow kw ow' kd' j nb Hs Os y a n m w) (hP4 : ∀ k, k < W → so (m.2.2.2 (pq p 35) k) = 4 → 0 ≤ va (m.2.2.2 (pq p 35) k) ∧ va (m.2.2.2 (pq p 35) k) < ((PR : Nat) : Int)) : PP Q (q67 (SAf T Fv P p) N (qgo (SAf T Fv P p) N M1) m p (I ((v : Nat) : Int))) (bnd (fm_M_one N w (I ((n : Nat) : Int)) (I (A w 23 n))) (fun u _ => KRs Fv' AN TT CC ND CN UN FN N p mu M2 w u)) := by
  have ih := IH M2 (Nat.le_refl _)
  obtain ⟨-, -, -, -, ⟨-, n2, -⟩, -, -, -, -, nND, -⟩ := st_b s
  have nd := s.2.1.1.1.1.1
  have n26 := n2.2.2.2.2.2.2.2.2.2.2.2.2.2.2.2
  have n28 := n2.2.2.2.2.2.2.2.2.2.2.2.2.1
  obtain ⟨f1, cr1⟩ := s.2.2.2.2.2.1.2.2.1
  cases f1 with
  | zero => exact cr1.elim
  | succ f0 =>
  obtain ⟨-, bds, lc⟩ := cr1
  rcases lc with lc | lc | lc | lc | lc | lc | lc | lc | lc | lc | lc | lc | lc | lc | lc | lc | lc | lc | lc | lc | lc | lc | lc | lc | lc | lc | lc | lc | lc | lc | lc
  · obtain ⟨h23, h1, c0, c1, c2, cr⟩ := lc
    rw [show A w 23 n = 1 from h23]
    exact sk_1 ih s c0 h1 c1 c2 ⟨f0, cr⟩
  · obtain ⟨h23, c0, l2, st, cr⟩ := lc
    rw [show A w 23 n = 2 from h23]
    exact sk_2 ih s h23 c0 st ⟨f0, cr⟩
  · obtain ⟨h23, c0, lk, cr⟩ := lc
    rw [show A w 23 n = 3 from h23]
    exact sk_3 ih s c0 lk ⟨f0, cr⟩
  · obtain ⟨h23, c0, c1, cr⟩ := lc
    rw [show A w 23 n = 4 from h23]
    exact sk_4 ih s h23 c0 c1 ⟨f0, cr⟩
  · obtain ⟨h23, h26, h25, c0, c1, cr⟩ := lc
    rw [show A w 23 n = 5 from h23]
    exact sk_5a ih s h23 h26 h25 c0 c1 ⟨f0, cr⟩
  · rcases lc with ⟨h23, h26, c0, d1, d2, ⟨h25, cr⟩ | ⟨h25, d3, d4, cr⟩⟩
    · rw [show A w 23 n = 5 from h23]
      exact sk_5n ih s h25 h26 c0 d1 d2 ⟨f0, cr⟩
    · rw [show A w 23 n = 5 from h23]
      exact sk_5b ih s h23 h26 h25 c0 d1 d2 d3 d4 ⟨f0, cr⟩
  · obtain ⟨h23, tw, cr⟩ := lc
    rw [show A w 23 n = 6 from h23]
    rcases tw with ⟨c0, hs⟩ | ⟨c0, hs⟩ | ⟨c0, ⟨hd, ht⟩ | ⟨hd, ht⟩⟩
    · exact sk_6c ih s h23 hs c0 rfl rfl ⟨f0, cr⟩
    · exact sk_6a ih s h23 hs c0 rfl rfl ⟨f0, cr⟩
    · exact sk_6j ih s h23 c0 ht hd ⟨f0, cr⟩
    · exact sk_6l ih s h23 c0 ht hd ⟨f0, cr⟩
  · obtain ⟨h23, c0, cr⟩ := lc
    rw [show A w 23 n = 7 from h23]
    exact sk_7 ih s h23 c0 ⟨f0, cr⟩
  · obtain ⟨h23, c0, cr⟩ := lc
    rw [show A w 23 n = 8 from h23]
    exact sk_8 ih s h23 c0 ⟨f0, cr⟩
  · rcases lc with ⟨⟨h23, c0⟩ | ⟨h23, c0⟩, ⟨t, b0, ht, hd, cr2⟩, cr⟩
    · rw [show A w 23 n = 9 from h23]
      exact sk_9 ih s h23 c0 ht hd ⟨f0, cr2⟩ ⟨f0, cr⟩
    · rw [show A w 23 n = 10 from h23]
      exact sk_10 ih s h23 c0 ht hd ⟨f0, cr2⟩ ⟨f0, cr⟩
  · obtain ⟨h23, c0, cr⟩ := lc
    rw [show A w 23 n = 11 from h23]
    exact sk_11 ih s hP4 h23 c0 ⟨f0, cr⟩
  · obtain ⟨h23, h27, pd, cr⟩ := lc
    rw [show A w 23 n = 12 from h23]
    exact sk_pd ih s hP4 h23 h27 pd ⟨f0, cr⟩
  · obtain ⟨h23, rfl, h27, c1, c2, c3, hh⟩ := lc
    rw [show A w 23 n = 12 from h23]
    have hh2 : (A w 30 n = 1 ∧ A m 23 a = 26 ∧ a + 3 < 24000) ∨ (A w 30 n = 0 ∧ A m 23 a = 25 ∧ ∃ f, CRs (A m 23) (ROs w) (w.2.2.2 34) f none (a + 4) (n + 1) (Hs j) (Os j)) := by
      rcases hh with hh | ⟨k1, k2, k3⟩
      · exact Or.inl hh
      · exact Or.inr ⟨k1, k2, f0, k3⟩
    exact sk_12 ih s h27 c1 c2 c3 hh2 h23
  · obtain ⟨h23, rfl, c1, c3, hh⟩ := lc
    rw [show A w 23 n = 13 from h23]
    have hh2 : (A w 30 n = 1 ∧ A m 23 a = 28 ∧ a + 2 < 24000) ∨ (A w 30 n = 0 ∧ A m 23 a = 27 ∧ ∃ f, CRs (A m 23) (ROs w) (w.2.2.2 34) f none (a + 3) (n + 1) (Hs j) (Os j)) := by
      rcases hh with hh | ⟨k1, k2, k3⟩
      · exact Or.inl hh
      · exact Or.inr ⟨k1, k2, f0, k3⟩
    exact sk_13 ih s h23 c1 c3 hh2
  · obtain ⟨h23, c0, c1, uu, l2, bb, h25, h54, c2, h55, lk, cr⟩ := lc
    rw [show A w 23 n = 14 from h23]
    exact sk_14 ih s h23 c0 c1 h25 h54 c2 h55 lk ⟨f0, cr⟩
  · obtain ⟨h23, c0, c1, cr⟩ := lc
    rw [show A w 23 n = 15 from h23]
    exact sk_15 ih s h23 c0 c1 ⟨f0, cr⟩
  · obtain ⟨h23, rfl, c0, q, e, O2, h25, ps, c8, cr⟩ := lc
    rw [show A w 23 n = 16 from h23]
    exact sk_16 ih s h23 c0 h25 ps c8 (by have := CR_b2 cr; omega) ⟨f0, cr⟩
  · obtain ⟨h23, c0, cr⟩ := lc
    rw [show A w 23 n = 17 from h23]
    exact sk_17 ih s h23 c0 ⟨f0, cr⟩
  · obtain ⟨h23, c0, k, hd, hk, ht, cr⟩ := lc
    rw [show A w 23 n = 18 from h23]
    have e : y = none := y_none s (WNa_18 s h23)
    subst e
    exact sk_18 ih s h23 c0 hd hk ht ⟨f0, cr⟩
  · obtain ⟨h23, h24, c0, c1, k, hd, hk, ht, cr⟩ := lc
    rw [show A w 23 n = 18 from h23]
    have e : y = none := y_none s (WNa_18 s h23)
    subst e
    cases M2 with
    | zero => exact KR_0
    | succ M2 => exact sk_1820 (IH M2 (by omega)) s h23 h24 c0 c1 hd hk ht ⟨f0, cr⟩
  · obtain ⟨h23, rfl, c0, ⟨t, b0, ht, hd, crc⟩, cr⟩ := lc
    rw [show A w 23 n = 19 from h23]
    exact sk_19 ih s c0 ht hd ⟨f0, crc⟩ ⟨f0, cr⟩
  · obtain ⟨h23, c0, cr⟩ := lc
    rw [show A w 23 n = 20 from h23]
    exact sk_20 ih s h23 c0 ⟨f0, cr⟩
  · obtain ⟨h23, rfl, h27, zr⟩ := lc
    rcases h23 with h23 | h23
    · rw [show A w 23 n = 21 from h23]
      rw [if_pos h23] at zr
      exact sk_21 ih s h27 ⟨f0, f0, zr⟩
    · have e : ROs w 23 n = 31 := h23
      rw [show A w 23 n = 31 from h23]
      rw [if_neg (by rw [e]; omega)] at zr
      exact sk_31 ih s h27 ⟨f0, f0, zr⟩
  · obtain ⟨h23, hy, c0, cr⟩ := lc
    rw [show A w 23 n = 22 from h23]
    cases y with
    | none => exact absurd rfl hy
    | some y =>
      obtain ⟨kd, k, sc⟩ := y
      exact sk_22 ih s h23 c0 ⟨f0, cr⟩
  · obtain ⟨h23, c0, kd, k, sc, rfl, cs⟩ := lc
    rw [show A w 23 n = 23 from h23]
    exact sk_23 ih s c0 ⟨f0, cs⟩
  · obtain ⟨h23, c0, t, b0, ht, hd, cr⟩ := lc
    rw [show A w 23 n = 26 from h23]
    refine sk_26 ih s c0 ht ?_ ⟨f0, cr⟩
    rcases hd with hd | ⟨hd, r, hr, hr2⟩
    · exact Or.inl hd
    · refine Or.inr ⟨hd, r, hr, ?_, hr2⟩
      rcases (n26 h23).2 with ⟨a5, y1, -⟩ | ⟨-, r5, y1, y2, -⟩
      · have e1 : A w 25 n = -2 := hd
        omega
      · have e1 : A w 26 n = ((r : Nat) : Int) := hr
        omega
  · obtain ⟨h23, b0, hd, cr⟩ := lc
    rw [show A w 23 n = 26 from h23]
    exact sk_26n ih s hd ⟨f0, cr⟩
  · obtain ⟨h23, rfl, h31, c0, c1, h27, rc⟩ := lc
    rw [show A w 23 n = 27 from h23]
    exact sk_27 ih s h23 h31 c0 c1 h27 ⟨f0, rc⟩
  · obtain ⟨h23, rfl, r, k, a2, h25, h27, hk, hh, c31, c1, r23, r31, r27, rc⟩ := lc
    rw [show A w 23 n = 28 from h23]
    have hr : r < 100000 := by
      obtain ⟨-, -, c5, -, -, -, a5, y1, y2, -⟩ := n28 h23
      have e1 : A w 25 n = ((r : Nat) : Int) := h25
      omega
    have ha2 : a2 + 1 < 24000 := by
      rcases hh with ⟨-, e⟩ | ⟨-, -, -, e⟩
      · omega
      · have := rc.2.1
        have z := ZR_b this
        omega
    cases M2 with
    | zero => exact KR_0
    | succ M2 => exact sk_28 (IH M2 (by omega)) (IH (M2 + 1) (by omega)) s h23 h25 hr h27 hk hh c31 c1 ha2 r23 r31 r27 ⟨f0, rc⟩
  · obtain ⟨h23, rfl, c0⟩ := lc
    rw [show A w 23 n = 29 from h23]
    exact sk_29 ih s h23 c0
  · obtain ⟨h23, cr⟩ := lc
    rw [show A w 23 n = 30 from h23]
    exact sk_30 ih s ⟨f0, cr⟩
end
