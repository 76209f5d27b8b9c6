set_option maxRecDepth 100000
def cS (c : Nat → Nat) (q : Nat) : Nat → Nat := fun i => if i = pq q 2 then c (pq q 3) else if i = pq q 3 then c (pq q 2) else c i
def swp (m : MS) (q : Nat) : MS := upJ (upJ m (pq q 2) (m.2.2.2 (pq q 3))) (pq q 3) (m.2.2.2 (pq q 2))
section
variable {α β : Type} {z : Nat} {o : Option Nat} {V : (Nat → Nat) → α → β → Prop} {c : Nat → Nat} {u : CS} {m : MS} {j q : Nat} {N : Nat}
theorem cS_2 : cS c q (pq q 2) = c (pq q 3) := if_pos rfl
theorem cS_3 : cS c q (pq q 3) = c (pq q 2) := by unfold cS; rw [if_neg (by unfold pq; omega), if_pos rfl]
theorem cS_ne {r i : Nat} (hi : i < 100) (h : ¬ (r = q ∧ (i = 2 ∨ i = 3))) : cS c q (pq r i) = c (pq r i) := by unfold cS; rw [if_neg (by unfold pq; omega), if_neg (by unfold pq; omega)]
theorem MD_cS {r : Nat} : MD (cS c q) r ↔ MD c r := by unfold MD; rw [cS_ne (by omega) (by omega)]
theorem swp_2 : (swp m q).2.2.2 (pq q 2) = m.2.2.2 (pq q 3) := by unfold swp upJ; show (if _ then _ else if _ then _ else _) = _; rw [if_neg (by unfold pq; omega), if_pos rfl]
theorem swp_3 : (swp m q).2.2.2 (pq q 3) = m.2.2.2 (pq q 2) := by unfold swp upJ; exact if_pos rfl
theorem swp_ne {i : Nat} (h : i ≠ pq q 2 ∧ i ≠ pq q 3) : (swp m q).2.2.2 i = m.2.2.2 i := by unfold swp upJ; show (if _ then _ else if _ then _ else _) = _; rw [if_neg h.2, if_neg h.1]
theorem RP_swap (h : RP o c m u) (hq : MD c q) {f : Nat → LV} {w : CS} (e0 : u.2 (c (pq q 0)) = .inl (7, f)) (e1 : w.1 = u.1) (e2 : w.2 (c (pq q 0)) = .inl (7, fun i => if i = 3 then rfv (c (pq q 2)) else if i = 2 then rfv (c (pq q 3)) else f i)) (e3 : ∀ i, i ≠ c (pq q 0) → w.2 i = u.2 i) : RP o (cS c q) (swp m q) w := by
  obtain ⟨⟨s1, s2, s3, s4, s5, s6, s7⟩, r2, r3, ⟨q1, q2⟩, ⟨d1, d2⟩, ⟨p1, p2⟩, t1, t2, t3⟩ := h
  have hM : ∀ r, MD (cS c q) r ↔ MD c r := fun r => MD_cS
  have hb := d2 q 0 hq isR0
  have hi : ∀ i, i < 57 → w.2 i = u.2 i := fun i hi => e3 i (by omega)
  have is2 : isR 2 := by unfold isR; omega
  have is3 : isR 3 := by unfold isR; omega
  have hd : ∀ r i, MD c r → isR i → ∃ i2, isR i2 ∧ cS c q (pq r i) = c (pq r i2) ∧ ((r = q ∧ i = 2 ∧ i2 = 3) ∨ (r = q ∧ i = 3 ∧ i2 = 2) ∨ (¬ (r = q ∧ (i = 2 ∨ i = 3)) ∧ i2 = i)) := by
    intro r i a b
    by_cases c1 : r = q ∧ i = 2
    · obtain ⟨rfl, rfl⟩ := c1
      exact ⟨3, is3, cS_2, Or.inl ⟨rfl, rfl, rfl⟩⟩
    · by_cases c2 : r = q ∧ i = 3
      · obtain ⟨rfl, rfl⟩ := c2
        exact ⟨2, is2, cS_3, Or.inr (Or.inl ⟨rfl, rfl, rfl⟩)⟩
      · exact ⟨i, b, cS_ne (isR_lt b) (by omega), Or.inr (Or.inr ⟨by omega, rfl⟩)⟩
  refine ⟨⟨?_, fun i z a b => ?_, ?_, fun i a => ?_, fun i a => ?_, ?_, s7⟩, ?_, fun r hr => ?_, ⟨fun r hr => ?_, fun r hr => ?_⟩, ⟨fun r1 k1 r2 k2 a1 a2 b1 b2 ee => ?_, fun r z a b => ?_⟩, ⟨fun r z a b => ?_, fun r r2 a b => (hM r2).mpr (p2 r r2 ((hM r).mp a) b)⟩, ?_, ?_, fun r z a b => t3 r z ((hM r).mp a) b⟩
  · unfold skB
    rw [Bool.and_eq_true]
    refine ⟨decide_eq_true (by rw [e1]; exact sk_n s1), List.all_eq_true.mpr (fun i a => ?_)⟩
    rw [hi i (List.mem_range.mp a)]
    exact sk_at s1 (List.mem_range.mp a)
  · rw [FI_at (hi i a), s2 i z a b]; rfl
  · rw [FJ_at (hi 55 (by omega)), s3]; rfl
  · rw [AI_at (hi i a), s4 i a]; rfl
  · rw [AJ_at (hi i a), s5 i a, swp_ne (by unfold pq; omega)]
  · rw [FR_at (hi 43 (by omega)), s6]; rfl
  · unfold wfB
    refine List.all_eq_true.mpr (fun i a => ?_)
    have a2 := List.mem_range.mp a
    rw [e1] at a2 ⊢
    by_cases c1 : i = c (pq q 0)
    · rw [c1, e2]
      have hf := okC_of r2 hb.2 e0
      unfold okC at hf ⊢
      refine List.all_eq_true.mpr (fun k hk => ?_)
      have := List.all_eq_true.mp hf k hk
      show okV u.1.1 (if k = 3 then _ else if k = 2 then _ else f k) = true
      by_cases c2 : k = 3
      · rw [if_pos c2]; exact decide_eq_true (d2 q 2 hq is2).2
      · rw [if_neg c2]
        by_cases c3 : k = 2
        · rw [if_pos c3]; exact decide_eq_true (d2 q 3 hq is3).2
        · rw [if_neg c3]; exact this
    · rw [e3 i c1]; exact wf_at r2 a2
  · obtain ⟨a1, a2, a3⟩ := r3 r hr
    rw [FR_at (hi 55 (by omega)), FR_at (hi 55 (by omega)), cS_ne (by omega) (by omega), cS_ne (by omega) (by omega)]
    exact ⟨(hM r).mpr a1, a2, a3⟩
  · rw [AP_at (hi 48 (by omega)), cS_ne (by omega) (by omega)]; exact q1 r hr
  · rw [cS_ne (by omega) (by omega)]; exact q2 r hr
  · obtain ⟨i1, b3, b4, b5⟩ := hd r1 k1 ((hM r1).mp a1) b1
    obtain ⟨i2, b6, b7, b8⟩ := hd r2 k2 ((hM r2).mp a2) b2
    rw [b4, b7] at ee
    have := d1 r1 i1 r2 i2 ((hM r1).mp a1) ((hM r2).mp a2) b3 b6 ee
    omega
  · obtain ⟨i1, b3, b4, b5⟩ := hd r z ((hM r).mp a) b
    rw [b4, e1]
    exact d2 r i1 ((hM r).mp a) b3
  · replace a := (hM r).mp a
    by_cases c1 : r = q ∧ z = 2
    · obtain ⟨rfl, rfl⟩ := c1
      rw [cS_2, e3 _ (fun y => absurd (d1 r 3 r 0 hq hq is3 isR0 y).2 (by decide))]
      have := (p1 r 3 hq is3).2.2.2.1 rfl
      refine ⟨fun y => (by cases y), fun y => (by cases y), fun _ => ?_, fun y => (by cases y), fun y => (by cases y), fun y => (by cases y), fun y => (by cases y), fun y => (by cases y), fun y => (by cases y), fun y => (by cases y), fun y => (by cases y)⟩
      rw [swp_2]; exact this
    · by_cases c2 : r = q ∧ z = 3
      · obtain ⟨rfl, rfl⟩ := c2
        rw [cS_3, e3 _ (fun y => absurd (d1 r 2 r 0 hq hq is2 isR0 y).2 (by decide))]
        have := (p1 r 2 hq is2).2.2.1 rfl
        refine ⟨fun y => (by cases y), fun y => (by cases y), fun y => (by cases y), fun _ => ?_, fun y => (by cases y), fun y => (by cases y), fun y => (by cases y), fun y => (by cases y), fun y => (by cases y), fun y => (by cases y), fun y => (by cases y)⟩
        rw [swp_3]; exact this
      · rw [cS_ne (isR_lt b) (by omega)]
        have hP := p1 r z a b
        have hJ : ∀ y, z = y → (y < 100) → (swp m q).2.2.2 (pq r y) = m.2.2.2 (pq r y) := fun y e e9 => swp_ne (by unfold pq; omega)
        by_cases c3 : z = 0
        · subst c3
          obtain ⟨fp, g0, g1, g2, g3, g4, g5, g6, g7, g8, g9, g10⟩ := hP.1 rfl
          have hh : hmR (cS c q) (swp m q) r = hmR c m r := by
            unfold hmR
            have hcc : (fun r => cS c q (pq r 0)) = fun r => c (pq r 0) := funext (fun r3 => cS_ne (by omega) (by omega))
            rw [hcc]; rfl
          by_cases c4 : r = q
          · subst c4
            rw [e2]
            rw [e0] at g0
            cases g0
            refine ⟨fun _ => ⟨_, rfl, g1, ?_, ?_, ?_, ?_, ?_, ?_, fun i hi => ?_, g9, g10⟩, fun y => (by cases y), fun y => (by cases y), fun y => (by cases y), fun y => (by cases y), fun y => (by cases y), fun y => (by cases y), fun y => (by cases y), fun y => (by cases y), fun y => (by cases y), fun y => (by cases y)⟩
            · rw [cS_ne (by omega) (by omega)]; exact g2
            · rw [cS_2]; rfl
            · rw [cS_3]; rfl
            · rw [cS_ne (by omega) (by omega)]; exact g5
            · rw [cS_ne (by omega) (by omega)]; exact g6
            · rw [hh]; exact g7
            · rw [if_neg (by unfold KI at hi; omega), if_neg (by unfold KI at hi; omega)]; exact g8 i hi
          · rw [e3 _ (fun y => c4 (d1 r 0 q 0 a hq isR0 isR0 y).1)]
            refine ⟨fun _ => ⟨fp, g0, g1, ?_, ?_, ?_, ?_, ?_, ?_, g8, g9, g10⟩, fun y => (by cases y), fun y => (by cases y), fun y => (by cases y), fun y => (by cases y), fun y => (by cases y), fun y => (by cases y), fun y => (by cases y), fun y => (by cases y), fun y => (by cases y), fun y => (by cases y)⟩
            · rw [cS_ne (by omega) (by omega)]; exact g2
            · rw [cS_ne (by omega) (by omega)]; exact g3
            · rw [cS_ne (by omega) (by omega)]; exact g4
            · rw [cS_ne (by omega) (by omega)]; exact g5
            · rw [cS_ne (by omega) (by omega)]; exact g6
            · rw [hh]; exact g7
        · rw [e3 _ (fun y => c3 (d1 r z q 0 a hq b isR0 y).2)]
          obtain ⟨y0, y20, y2, y3, y6, yr⟩ := hP
          refine ⟨fun y => absurd y c3, fun y => ?_, fun y => ?_, fun y => ?_, fun y => ?_, yr.1, yr.2.1, yr.2.2.1, fun y => ?_, fun y => ?_, yr.2.2.2.2.2⟩
          · obtain ⟨fo2, g0, g1, g2, g3, g4, g5, g6⟩ := y20 y
            refine ⟨fo2, g0, ?_, ?_, ?_, ?_, ?_, g6⟩
            · rw [cS_ne (by omega) (by omega)]; exact g1
            · rw [cS_ne (by omega) (by omega)]; exact g2
            · rw [cS_ne (by omega) (by omega)]; exact g3
            · rw [cS_ne (by omega) (by omega)]; exact g4
            · rw [cS_ne (by omega) (by omega)]; exact g5
          · rw [hJ 2 y (by omega)]; exact y2 y
          · rw [hJ 3 y (by omega)]; exact y3 y
          · rw [hJ 6 y (by omega)]; exact y6 y
          · rw [hJ 33 y (by omega)]; exact yr.2.2.2.1 y
          · rw [hJ 35 y (by omega)]; exact yr.2.2.2.2.1 y
  · rw [e1, t1]
    refine congrArg _ (slT_eq (fun r hr => ?_)).symm
    unfold slQ
    rw [cS_ne (by omega) (by omega)]
    rfl
  · rw [e1]; exact t2
theorem rf_swap (h : RP o c m u) (hj : PVn c j q) (hz : zle 3 z) {fk : CS → Option (CS × α)} {g : MS → Option (MS × β)} (kk : ∀ c2 m2 w, RP o c2 m2 w → EX 3 c u c2 w → RF z o V c2 w (fk w) (g m2)) :
    RF z o V c u (bo (pF u j 7 2 (.inr (.inr (some (c (pq q 3)))))) (fun w1 => bo (pF w1 j 7 3 (.inr (.inr (some (c (pq q 2)))))) fk)) (lt (swp m q) g) := by
  obtain ⟨f, e, e1, hlt, f2, e2, rr⟩ := oF_P h hj
  cases e2
  have hj2 := hj
  obtain ⟨hq, rfl⟩ := hj
  have ep : pF u (c (pq q 0)) 7 2 (.inr (.inr (some (c (pq q 3))))) = some (cup u (c (pq q 0)) (.inl (7, fun i => if i = 2 then rfv (c (pq q 3)) else f i))) := by
    unfold pF
    rw [e]
    rfl
  rw [ep]
  have ep2 : pF (cup u (c (pq q 0)) (.inl (7, fun i => if i = 2 then rfv (c (pq q 3)) else f i))) (c (pq q 0)) 7 3 (.inr (.inr (some (c (pq q 2))))) = some (cup (cup u (c (pq q 0)) (.inl (7, fun i => if i = 2 then rfv (c (pq q 3)) else f i))) (c (pq q 0)) (.inl (7, fun i => if i = 3 then rfv (c (pq q 2)) else if i = 2 then rfv (c (pq q 3)) else f i))) := by
    unfold pF oF
    rw [cup_1, if_pos hlt, cup_eq]
    rfl
  show RF z o V c u (bo (pF (cup u (c (pq q 0)) (.inl (7, fun i => if i = 2 then rfv (c (pq q 3)) else f i))) (c (pq q 0)) 7 3 (.inr (.inr (some (c (pq q 2)))))) fk) _
  rw [ep2]
  have hR := RP_swap h hq (w := cup (cup u (c (pq q 0)) (.inl (7, fun i => if i = 2 then rfv (c (pq q 3)) else f i))) (c (pq q 0)) (.inl (7, fun i => if i = 3 then rfv (c (pq q 2)) else if i = 2 then rfv (c (pq q 3)) else f i))) e1 rfl cup_eq (fun i hi => by rw [cup_ne hi, cup_ne hi])
  have hE : EX 3 c u (cS c q) (cup (cup u (c (pq q 0)) (.inl (7, fun i => if i = 2 then rfv (c (pq q 3)) else f i))) (c (pq q 0)) (.inl (7, fun i => if i = 3 then rfv (c (pq q 2)) else if i = 2 then rfv (c (pq q 3)) else f i))) :=
    ⟨fun r hr => ⟨MD_cS.mpr hr, cS_ne (by omega) (by omega), cS_ne (by omega) (by omega)⟩, Nat.le_refl _, Nat.le_refl _, fun y => by omega, fun y => by omega, fun _ => rfl⟩
  intro m4 b hb
  obtain ⟨c2, u2, a, k1, k2, k3, k4⟩ := kk _ _ _ hR hE m4 b hb
  exact ⟨c2, u2, a, k1, k2, (hE.mo hz).tr k3, k4⟩
end
