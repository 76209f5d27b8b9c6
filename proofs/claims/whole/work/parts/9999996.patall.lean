/-! patterns: the reference's patternAt is the grammar's pP -/
set_option maxRecDepth 100000
section PTA
variable {N s T : Nat} {K : Nat → Nat} {v : Int32}
theorem patT (hN : 50000 ≤ N) : ∀ (r d f : Nat) (w : MS) (p np : Nat), 2 * (26 - d) + 2 ≤ r → 20 * (27 - d) ≤ f → d ≤ 25 → PV w K T p d np s → w.1 67 = 0 → p ≤ T → room np T p → POST K T p d np s w (pP K f d p) ((rc_M_rowPattern N r).2 w v) := by
  intro r
  induction r using Nat.strongRecOn with
  | ind r ih =>
    intro d f w p np hrd hf hd h h0 hp hr
    have t4 := h.tv.t4
    have hr' := hr
    unfold room at hr
    obtain ⟨r, rfl⟩ : ∃ r2, r = r2 + 2 := ⟨r - 2, by omega⟩
    obtain ⟨f, rfl⟩ : ∃ f2, f = f2 + 1 := ⟨f - 1, by omega⟩
    have k46 := h.tv.k46 hp
    show POST K T p d np s w _ (fb_M_patternAt_0 N (rc_M_rowPattern N (r + 1)) () w v)
    rw [a0 h h0 hp, pP_s]
    unfold op
    cases hb : bP (K p) with
    | false =>
      rw [if_pos rfl]
      show POST K T p d np s w _ (fb_M_patternAt_101 N _ () w v _ 0)
      unfold fb_M_patternAt_101
      rw [show decide ((0 : Int32) = 0) = true from rfl, q_b1, wr_ok h.ps (by omega), q_bn]
      obtain ⟨k1, k2⟩ := wr_67 (v := 2) h0 h.tv hp
      exact ⟨_, _, p, np, rfl, wr_P, h.wr, Nat.le_refl _, by omega, ⟨Nat.le_refl _, Nat.le_refl _⟩, Or.inl rfl, k1, k2, Nat.le_refl _, hp, by show 1 ≤ 2; decide, by show 2 ≤ 3; decide⟩
    | true =>
      rw [if_neg (by decide)]
      have hkk := bP_k (K p) k46 hb
      have hpT : p < T := h.tv.lt hp (by omega) (by omega)
      show POST K T p d np s w _ (fb_M_patternAt_101 N _ () w v _ 1)
      rw [p101, opn_ok h.ps (by omega) h.od (by omega), q_bn]
      by_cases hd25 : 25 ≤ d
      · -- too deep: the fault is noted, what follows does no harm
        rw [if_pos hd25, if_neg (show ¬ d < 25 by omega)]
        obtain ⟨k1, k2⟩ := wr_67 (v := 3) h0 h.tv hp
        have h8 : PV (upI (wrM w p 3) 70 (Int32.ofNat (d + 1))) K T p (d + 1) np s := (h.wr (x := p) (v := 3)).op
        have f8 : FrP IP APt w (upI (wrM w p 3) 70 (Int32.ofNat (d + 1))) := wr_P.tr i70
        have e67 : (upI (wrM w p 3) 70 (Int32.ofNat (d + 1))).1 67 = flt K 3 p := k1
        have e68 : (upI (wrM w p 3) 70 (Int32.ofNat (d + 1))).1 68 = w.2.2.1 8 p := k2
        generalize upI (wrM w p 3) 70 (Int32.ofNat (d + 1)) = w8 at h8 f8 e67 e68
        have nz : w8.1 67 ≠ 0 := by rw [e67]; exact flt_ne (by decide) (by decide)
        have fin : ∀ (y : Option (MS × Int32)) (q : Nat), p ≤ q → q ≤ T + 1 → p + 1 ≤ q → (∃ w2, y = some (w2, Int32.ofNat np) ∧ FrP IP APt w8 w2 ∧ PV w2 K T q d (np + 1) s ∧ w2.1 67 = w8.1 67 ∧ w2.1 68 = w8.1 68) → POST K T p d np s w (.inr (3, p) : Rs X) y := fun y q hq1 hq2 hq3 ⟨w2, b1, b2, b3, b4, b5⟩ => ⟨w2, _, q, np + 1, b1, f8.tr b2, b3, hq1, hq2, by omega, Or.inr ⟨np, by omega, rfl⟩, b4.trans e67, b5.trans e68, Nat.le_refl _, hp, by show 1 ≤ 3; decide, by show 3 ≤ 3; decide⟩
        rcases hkk with hk | hk | hk | hk | hk | hk | hk | hk
        · obtain ⟨w2, q, c1, c2, c3, c4, c5, c6⟩ := bdy2 (N := N) (S := rc_M_rowPattern N (r + 1)) (v := v) h8 hpT (by omega) (by omega) (Or.inl hk) rfl
          have c6 := c6.resolve_right (fun z => by rcases z with z | z | z <;> exact nz z.1)
          exact fin _ q (by omega) c5 (by omega) ⟨w2, c1, c2, c3, c6.2⟩
        · exact fin _ (p + 1) (by omega) (by omega) (by omega) (bdy1 h8 hpT (by omega) (by omega) (Or.inl hk) (by rw [decide_eq_false (show ¬ K p = 34 by omega)]; rfl) hN)
        · exact fin _ (p + 1) (by omega) (by omega) (by omega) (bdy1 h8 hpT (by omega) (by omega) (Or.inr (Or.inl hk)) (by rw [decide_eq_false (show ¬ K p = 34 by omega)]; rfl) hN)
        · exact fin _ (p + 1) (by omega) (by omega) (by omega) (bdy1 h8 hpT (by omega) (by omega) (Or.inr (Or.inr hk)) (by rw [decide_eq_false (show ¬ K p = 34 by omega)]; rfl) hN)
        case inr.inr.inr.inr.inr.inr.inr =>
          obtain ⟨w2, q, c1, c2, c3, c4, c5, c6⟩ := bdy2 (N := N) (S := rc_M_rowPattern N (r + 1)) (v := v) h8 hpT (by omega) (by omega) (Or.inr hk) rfl
          have c6 := c6.resolve_right (fun z => by rcases z with z | z | z <;> exact nz z.1)
          exact fin _ q (by omega) c5 (by omega) ⟨w2, c1, c2, c3, c6.2⟩
        all_goals
          rw [bdy3 h8 hpT (by omega) (by rw [decide_eq_false (show ¬ K p = 34 by omega)]; rfl), if_neg (fun z => nz z.1)]
          obtain ⟨w2, c1, c2, c3, c4, c5⟩ := rowPF (N := N) (S := rc_M_rowPattern N r) (v := v) h8 nz hp (by omega)
          have c1 : (rc_M_rowPattern N (r + 1)).1 w8 v = some (w2, Int32.ofNat np) := c1
          obtain ⟨b1, b2⟩ := a388 (N := N) (S := rc_M_rowPattern N (r + 1)) (r := Int32.ofNat np) c3 (by omega)
          rw [c1, q_bn, b1]
          exact fin _ (p + 1) (by omega) (by omega) (by omega) ⟨_, rfl, c2.tr i70, b2, c4, c5⟩
      · rw [if_neg hd25, if_pos (show d < 25 by omega)]
        have h8 : PV (upI w 70 (Int32.ofNat (d + 1))) K T p (d + 1) np s := h.op
        have f8 : FrP IP APt w (upI w 70 (Int32.ofNat (d + 1))) := i70
        have e67 : (upI w 70 (Int32.ofNat (d + 1))).1 67 = 0 := h0
        generalize upI w 70 (Int32.ofNat (d + 1)) = w8 at h8 f8 e67
        -- one token
        have one : ∀ (x : X) (y : Option (MS × Int32)), AL K T p d np s w8 (p + 1) y → POST K T p d np s w (.inl (x, p + 1) : Rs X) y := fun x y ⟨w2, b1, b2, b3, b4, b5⟩ => ⟨w2, _, p + 1, np + 1, b1, f8.tr b2, b3, by omega, by omega, by omega, Or.inr ⟨np, by omega, rfl⟩, b4.trans e67, rfl, by show p < p + 1; omega, by show p + 1 ≤ T; omega, ofNat_ne (by omega)⟩
        -- what is inside
        have inner : ∀ f w p np, 20 * (27 - (d + 1)) ≤ f → PV w K T p (d + 1) np s → w.1 67 = 0 → p ≤ T → room np T p → POST K T p (d + 1) np s w (pP K f (d + 1) p) ((rc_M_rowPattern N r).2 w v) := fun f w p np a b c e g => ih r (by omega) (d + 1) f w p np (by omega) a (by omega) b c e g
        rcases hkk with hk | hk | hk | hk | hk | hk | hk | hk
        · obtain ⟨w2, q, c1, c2, c3, c4, c5, c6⟩ := bdy2 (N := N) (S := rc_M_rowPattern N (r + 1)) (v := v) h8 hpT (by omega) (by omega) (Or.inl hk) rfl
          rw [if_neg (by omega), if_neg (by omega), if_neg (by omega), if_neg (by omega)]
          rcases c6 with ⟨z, -⟩ | ⟨-, -, rfl, c7⟩ | ⟨-, z, -⟩ | ⟨-, z, -⟩
          · exact absurd e67 z
          · exact ⟨w2, _, p + 1, np + 1, c1, f8.tr c2, c3, by omega, by omega, by omega, Or.inr ⟨np, by omega, rfl⟩, c7, rfl, by show p < p + 1; omega, by show p + 1 ≤ T; omega, ofNat_ne (by omega)⟩
          · omega
          · omega
        · rw [if_neg (by omega), if_neg (by omega), if_neg (by omega), if_neg (by omega)]
          exact one _ _ (bdy1 h8 hpT (by omega) (by omega) (Or.inl hk) (by rw [decide_eq_false (show ¬ K p = 34 by omega)]; rfl) hN)
        · rw [if_neg (by omega), if_neg (by omega), if_neg (by omega), if_neg (by omega)]
          exact one _ _ (bdy1 h8 hpT (by omega) (by omega) (Or.inr (Or.inl hk)) (by rw [decide_eq_false (show ¬ K p = 34 by omega)]; rfl) hN)
        · rw [if_neg (by omega), if_neg (by omega), if_neg (by omega), if_neg (by omega)]
          exact one _ _ (bdy1 h8 hpT (by omega) (by omega) (Or.inr (Or.inr hk)) (by rw [decide_eq_false (show ¬ K p = 34 by omega)]; rfl) hN)
        · -- ( P )
          rw [if_pos hk, bdy3 h8 hpT (Or.inl hk) (by rw [decide_eq_false (show ¬ K p = 34 by omega)]; rfl), if_pos ⟨e67, hk⟩]
          obtain ⟨w2, r2, p2, np2, b1, b2, b3, b4, b5, b6, b7, b8⟩ := ih (r + 1) (by omega) (d + 1) f (upI w8 69 (Int32.ofNat (p + 1))) (p + 1) np (by omega) (by omega) (by omega) (h8.pos (by omega)) e67 (by omega) (by unfold room; omega)
          have f9 : FrP IP APt w w2 := (f8.tr i69).tr b2
          rw [b1, q_bn, ndS_ok b3.ps (by omega), q_bn]
          cases hg : pP K f (d + 1) (p + 1) with
          | inr z =>
            rw [hg] at b8
            obtain ⟨g1, g2, g3, g4, g5, g6⟩ := b8
            have nz : w2.1 67 ≠ 0 := by rw [g1]; exact flt_ne g5 g6
            rw [if_neg (fun y => nz y.1), wr_id nz]
            obtain ⟨c1, c2⟩ := a388 (N := N) (S := rc_M_rowPattern N (r + 1)) (r := r2) b3 (by omega)
            rw [c1]
            refine ⟨_, _, p2, np2, rfl, f9.tr i70, c2, by omega, b5, by omega, b7, g1, ?_, by show p ≤ z.2; omega, g4, g5, g6⟩
            show w2.1 68 = _
            rw [g2]
            exact l8 (f8.tr (i69 (x := Int32.ofNat (p + 1))))
          | inl y =>
            rw [hg] at b8
            obtain ⟨g1, g2, g3, g4, g5⟩ := b8
            show POST K T p d np s w (bd (nd K 21 y.2) (fun _ r => .inl (X.group p y.1, r))) _
            rw [show (1 : Int32) = sgV 1 from by decide +kernel, b3.tv.sg (by omega) (m := 1) (by decide), ← g2]
            unfold nd
            by_cases h21 : K p2 = 21
            · rw [if_pos h21, if_pos ⟨g1, decide_eq_true h21⟩]
              have hlt : p2 < T := b3.tv.lt (by omega) (by omega) (by omega)
              obtain ⟨c1, c2⟩ := a388 (N := N) (S := rc_M_rowPattern N (r + 1)) (r := r2) (b3.pos (x := p2 + 1) (by omega)) (by omega)
              rw [c1]
              exact ⟨_, _, p2 + 1, np2, rfl, (f9.tr i69).tr i70, c2, by omega, by omega, by omega, b7, g1, rfl, by show p < p2 + 1; omega, by show p2 + 1 ≤ T; omega, g5⟩
            · rw [if_neg h21, if_neg (fun z => h21 (of_decide_eq_true z.2))]
              obtain ⟨k1, k2⟩ := wr_67 (v := 2) g1 b3.tv (show p2 ≤ T by omega)
              obtain ⟨c1, c2⟩ := a388 (N := N) (S := rc_M_rowPattern N (r + 1)) (r := r2) (b3.wr (x := p2) (v := 2)) (by omega)
              rw [c1]
              exact ⟨_, _, p2, np2, rfl, (f9.tr wr_P).tr i70, c2, by omega, by omega, by omega, b7, k1, k2.trans (l8 f9), by show p ≤ p2; omega, by show p2 ≤ T; omega, by show 1 ≤ 2; decide, by show 2 ≤ 3; decide⟩
        case inr.inr.inr.inr.inr.inr.inr =>
          obtain ⟨w2, q, c1, c2, c3, c4, c5, c6⟩ := bdy2 (N := N) (S := rc_M_rowPattern N (r + 1)) (v := v) h8 hpT (by omega) (by omega) (Or.inr hk) rfl
          rw [if_neg (by omega), if_neg (by omega), if_neg (by omega), if_pos hk]
          rcases c6 with ⟨z, -⟩ | ⟨-, z, -⟩ | ⟨-, -, z, rfl, c7⟩ | ⟨-, -, z, c7, c8⟩
          · exact absurd e67 z
          · omega
          · rw [if_pos z]
            have hlt : p + 1 < T := h.tv.lt (by omega) (by omega) (by omega)
            exact ⟨w2, _, p + 2, np + 1, c1, f8.tr c2, c3, by omega, by omega, by omega, Or.inr ⟨np, by omega, rfl⟩, c7, rfl, by show p < p + 2; omega, by show p + 2 ≤ T; omega, ofNat_ne (by omega)⟩
          · rw [if_neg z]
            exact ⟨w2, _, q, np + 1, c1, f8.tr c2, c3, by omega, c5, by omega, Or.inr ⟨np, by omega, rfl⟩, c7, c8.trans (l8 f8), by show p ≤ p + 1; omega, by show p + 1 ≤ T; omega, by show 1 ≤ 2; decide, by show 2 ≤ 3; decide⟩
        all_goals
          rw [if_neg (show ¬ K p = 20 by omega), bdy3 h8 hpT (by omega) (by rw [decide_eq_false (show ¬ K p = 34 by omega)]; rfl), if_neg (show ¬ (w8.1 67 = 0 ∧ K p = 20) from fun z => by omega)]
          have R := rowP (N := N) (S := rc_M_rowPattern N r) (v := v) (F0 := 20 * (27 - (d + 1))) (f := f) h8 e67 hpT hr' (by omega) inner (by omega) hN
          obtain ⟨w2, r2, p2, np2, b1, b2, b3, b4, b5, b6, b7, b8⟩ := R
          have b1 : (rc_M_rowPattern N (r + 1)).1 w8 v = some (w2, r2) := b1
          obtain ⟨c1, c2⟩ := a388 (N := N) (S := rc_M_rowPattern N (r + 1)) (r := r2) b3 (by omega)
          rw [b1, q_bn, c1]
          refine ⟨_, _, p2, np2, rfl, (f8.tr b2).tr i70, c2, b4, b5, b6, b7, ?_⟩
        · rw [if_pos hk] at b8
          rw [if_pos hk]
          cases hg : bd (pRu K f (d + 1) true 8 23 (p + 1)) (fun xs q => (.inl (X.tuple p xs, q) : Rs X)) with
          | inl q => rw [hg] at b8; exact b8
          | inr z => rw [hg] at b8; exact ⟨b8.1, b8.2.1.trans (l8 f8), b8.2.2⟩
        · rw [if_neg (show ¬ K p = 22 by omega)] at b8
          rw [if_neg (show ¬ K p = 22 by omega), if_pos hk]
          cases hg : pLi K f (d + 1) true p with
          | inl q => rw [hg] at b8; exact b8
          | inr z => rw [hg] at b8; exact ⟨b8.1, b8.2.1.trans (l8 f8), b8.2.2⟩
end PTA
