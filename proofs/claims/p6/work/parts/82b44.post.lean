set_option maxRecDepth 100000
section
variable {Fv : Int64 → Int64 → Prop} {P : Int64 → Prop} {u v w m m2 : MS} {PR N q r n B W Y : Nat} {ow kd : Nat → Nat} {t : Int64} {h h2 : Nat → Int64}
theorem PTQ_b (p : PTQ u q n ow kd Fv P B W Y) : n ≤ 500 ∧ B ≤ 1000000 ∧ W ≤ 1000000 ∧ Y ≤ 30 := by
  obtain ⟨⟨p1, p2, p3⟩, ⟨p4, p5⟩, ⟨p6, p7⟩, ⟨p8, p9⟩, ⟨l, a1, a2, a3⟩, ⟨l2, b1, b2, b3⟩, c⟩ := p
  omega
theorem comes_ok (p : PTQ u q n ow kd Fv P B W Y) (hY : Y < 30) (g : GT n ow kd P t) : OK (fun w _ => FC q [] [] [] [7] [] [] [6] u w ∧ PTQ w q n ow kd Fv P B W (Y + 1) ∧ w.2.2.2 44 = u.2.2.2 44) (hm_Pr_comes N u q t) := by
  obtain ⟨⟨p1, p2, p3⟩, ⟨p4, p5⟩, ⟨p6, p7⟩, ⟨p8, p9⟩, ⟨l, a1, a2⟩, ⟨l2, b1, b2⟩, c⟩ := p
  unfold hm_Pr_comes hb_Pr_comes_0 hb_Pr_comes_29
  rw [I_F (k := pq q 7), p8, I_lit (n := 30)]
  refine k_le ⟨by decide, by decide⟩ ⟨by omega, by omega⟩ (fun y => absurd y (by show ¬ (30 : Int) ≤ _; omega)) (fun _ => ?_)
  refine e_in ⟨by omega, by omega⟩ (by decide) (ok_lt.mpr ?_)
  rw [tnI (n := Y) rfl (by omega), wj_e, show (wj u (pq q 6) Y t).1 (pq q 7) = I ((Y : Nat) : Int) by show u.1 (pq q 7) = _; rw [I_F, p8], lit1q, I_add]
  refine ok_lt.mpr (ok_some.mpr ?_)
  rw [wi_e]
  generalize hz : wi (wj u (pq q 6) Y t) (pq q 7) ((Y : Int) + 1) = z
  have f : FC q [] [] [] [7] [] [] [6] u z := by rw [← hz]; exact FC.wi_q (FC.wj_q FC.rf (by omega) (by simp)) (by omega) (by simp)
  have e7 : F z (pq q 7) = ((Y + 1 : Nat) : Int) := by rw [← hz, F_wi (by omega) (by omega), if_pos rfl]; omega
  have e6 : ∀ i, z.2.2.2 (pq q 6) i = if i = Y then t else u.2.2.2 (pq q 6) i := fun i => by rw [← hz]; exact wj_row
  refine ⟨f, ⟨⟨by rw [f.Fq (by omega) (by simp)]; exact p1, p2, by rw [f.jq (by omega) (by simp)]; exact p3⟩, ⟨by rw [f.Fq (by omega) (by simp)]; exact p4, by rw [f.jq (by omega) (by simp)]; exact p5⟩, ⟨by rw [f.Fq (by omega) (by simp)]; exact p6, by rw [f.jq (by omega) (by simp)]; exact p7⟩, ⟨e7, fun i hi => ?_⟩, ⟨l, by rw [f.Fq (by omega) (by simp)]; exact a1, a2⟩, ⟨l2, by rw [f.Fq (by omega) (by simp)]; exact b1, b2⟩, by omega⟩, ?_⟩
  · rw [e6]
    by_cases e : i = Y
    · rw [if_pos e]; exact g
    · rw [if_neg e]; exact p9 i (by omega)
  · rw [← hz]
    show (wj u (pq q 6) Y t).2.2.2 44 = _
    exact if_neg (by unfold pq; omega)
theorem PTQ_cells (p : PTQ u q n ow kd Fv P B W Y) {n2 : Nat} {ow2 kd2 : Nat → Nat} (f : FC q [] [] [] [4] [] [] [2] u w) (e4 : F w (pq q 4) = ((n2 : Nat) : Int)) (hn : n2 ≤ 500) (g : HPc (w.2.2.2 (pq q 2)) n2 ow2 kd2 Fv P) (gt : ∀ t, GT n ow kd P t → GT n2 ow2 kd2 P t) : PTQ w q n2 ow2 kd2 Fv P B W Y := by
  obtain ⟨⟨p1, p2, p3⟩, ⟨p4, p5⟩, ⟨p6, p7⟩, ⟨p8, p9⟩, ⟨l, a1, a2⟩, ⟨l2, b1, b2⟩, c⟩ := p
  exact ⟨⟨e4, hn, g⟩, ⟨by rw [f.Fq (by omega) (by simp)]; exact p4, fun i hi => by rw [f.jq (by omega) (by simp)]; exact gt _ (p5 i hi)⟩, ⟨by rw [f.Fq (by omega) (by simp)]; exact p6, fun i hi => by rw [f.jq (by omega) (by simp)]; exact gt _ (p7 i hi)⟩, ⟨by rw [f.Fq (by omega) (by simp)]; exact p8, fun i hi => by rw [f.jq (by omega) (by simp)]; exact gt _ (p9 i hi)⟩, ⟨l, by rw [f.Fq (by omega) (by simp)]; exact a1, a2⟩, ⟨l2, by rw [f.Fq (by omega) (by simp)]; exact b1, b2⟩, c⟩
theorem GT_at {a : Nat} (c : CTX Fv P u) (ha : a < 22) : GT n ow kd P (mk 1 ((a : Nat) : Int)) := Or.inl ⟨nh_so (by rw [so_mk (by decide) (by decide)]; decide), c.2.2.2.2.2.1 _ (by omega) (by have := c.2.2.2.1; omega)⟩
theorem GT_nu {s x : Int} (c : CTX Fv P u) (hs : s = 0 ∨ s = 2 ∨ s = 4) (hx : RG x) : GT n ow kd P (mk s x) := by
  obtain ⟨x1, x2, x3⟩ := c.2.2.2.2.1 x hx
  refine Or.inl ⟨nh_so (by rw [so_mk (by omega) (by omega)]; omega), ?_⟩
  rcases hs with rfl | rfl | rfl
  · exact x1
  · exact x2
  · exact x3
theorem nh_mk2 {s x : Int} (hs : s = 0 ∨ s = 1 ∨ s = 2 ∨ s = 4 ∨ s = 6) : ¬ isH (mk s x) := nh_so (by rw [so_mk (by omega) (by omega)]; omega)
theorem around_hp {U a s f0 : Nat} {c : Int64} (g : HPc h n ow kd Fv P) (hU : U + a ≤ n) (ha : a = 4 ∨ a = 5) (hno : ∀ j, j < a → U + j < ow (U + j)) (gc : GT n ow kd P c) (zc : SZc h n ow kd Fv P f0 c s) (hs : a + s ≤ 500) (hh : ∀ i, ¬ (U ≤ i ∧ i < U + a) → h2 i = h i) (hx1 : h2 U = mk 8 ((a : Int) - 1)) (hx2 : ∀ j, 1 ≤ j → j < a - 1 → ¬ isH (h2 (U + j)) ∧ P (h2 (U + j))) (hx3 : h2 (U + (a - 1)) = c) (hb : n ≤ 500) :
    ∃ ow2 kd2, HPc h2 n ow2 kd2 Fv P ∧ GT n ow2 kd2 P (mk 5 ((U : Nat) : Int)) ∧ ∀ t, GT n ow kd P t → GT n ow2 kd2 P t := by
  have s5 : so (mk 5 ((U : Nat) : Int)) = 5 := so_mk (by decide) (by decide)
  have v5 : va (mk 5 ((U : Nat) : Int)) = ((U : Nat) : Int) := va_mk (by omega) (by omega)
  have hv : vn (mk 5 ((U : Nat) : Int)) = U := by unfold vn; rw [v5]; exact Int.toNat_natCast U
  have hp : prt (mk 5 ((U : Nat) : Int)) = 1 := by unfold prt; rw [if_neg (by omega), if_pos s5]
  have s8 : so (mk 8 ((a : Int) - 1)) = 8 := so_mk (by decide) (by decide)
  have v8 : va (mk 8 ((a : Int) - 1)) = (a : Int) - 1 := va_mk (by omega) (by omega)
  have hbl : blk h2 (mk 5 ((U : Nat) : Int)) = a := by
    unfold blk
    rw [if_neg (by omega), if_pos s5, hv, hx1]
    unfold vn
    rw [v8]; omega
  have part : ∀ j, 1 ≤ j → j < a → GT n ow kd P (h2 (U + j)) := by
    intro j j1 j2
    by_cases e : j = a - 1
    · rw [e, hx3]; exact gc
    · exact Or.inl (hx2 j j1 (by omega))
  obtain ⟨ow2, kd2, o1, o2, o3, o4, o5, o6, o7⟩ := HP_putc g (h2 := h2) (m := a) (k := U) (x := mk 5 ((U : Nat) : Int)) hh hU hno (Or.inr (Or.inl s5)) (by omega) hv hbl (fun _ => by rw [hx1]; exact ⟨by omega, s8⟩) (fun z => by omega) (fun j j1 j2 => part j (by omega) j2) (Or.inr (fun f c2 hc => by
    rw [hp] at hc ⊢
    have z0 : ∀ j, 1 ≤ j → j < a - 1 → c2 j = 0 := fun j j1 j2 => SZ_nhc (hc j j1 (by omega)) (hx2 j j1 j2).1
    have z1 : c2 (a - 1) = s := by
      have := hc (a - 1) (by omega) (by omega)
      rw [hx3] at this
      exact SZ_func this zc
    rcases ha with rfl | rfl
    · have e : smm c2 1 (4 - 1) = c2 1 + c2 2 + c2 3 := by show 0 + c2 (1 + 0) + c2 (1 + 1) + c2 (1 + 2) = _; simp
      rw [e, z0 1 (by omega) (by omega), z0 2 (by omega) (by omega)]
      have : c2 3 = s := z1
      omega
    · have e : smm c2 1 (5 - 1) = c2 1 + c2 2 + c2 3 + c2 4 := by show 0 + c2 (1 + 0) + c2 (1 + 1) + c2 (1 + 2) + c2 (1 + 3) = _; simp
      rw [e, z0 1 (by omega) (by omega), z0 2 (by omega) (by omega), z0 3 (by omega) (by omega)]
      have : c2 4 = s := z1
      omega))
  exact ⟨ow2, kd2, o4, o5, fun t gt => GT_own gt (Nat.le_refl _) o1 o2⟩
theorem post_120 {U a s f0 : Nat} {v3 v4 : Int} {c : Int64} (cx : CTX Fv P u) (p : PTQ u q n ow kd Fv P B W Y) (hY : Y < 30) (hU : n = U + a + s) (ha : a = 0 ∨ a = 4 ∨ a = 5) (hno : ∀ j, j < a → U + j < ow (U + j)) (gc : GT n ow kd P c) (zc : SZc (u.2.2.2 (pq q 2)) n ow kd Fv P f0 c s) (h3 : RG v3) (h4 : RG v4) :
    OK (fun w _ => FC q [] [] [] [4, 7] [] [] [2, 6] u w ∧ (∃ ow2 kd2, PTQ w q n ow2 kd2 Fv P B W (Y + 1)) ∧ w.2.2.2 44 = u.2.2.2 44) (hb_Wl_post_120 N () u q (I ((a : Nat) : Int)) (I v3) (I v4) (I ((U : Nat) : Int)) c) := by
  have hn := p.1.2.1
  unfold hb_Wl_post_120
  rw [lit0q]
  refine k_eq ⟨by omega, by omega⟩ ⟨by decide, by decide⟩ (fun y => ?_) (fun y => ?_)
  · refine ok_bnd.mpr (ok_mono (comes_ok (N := N) p hY gc) (fun w _ hw => ok_some.mpr ⟨FC.mo hw.1 (by simp) (by simp) (by simp) (by simp) (by simp) (by simp) (by simp), ⟨ow, kd, hw.2.1⟩, hw.2.2⟩))
  have ha2 : a = 4 ∨ a = 5 := by omega
  rw [I_lit (n := 8), lit1q, I_sub, e_make, bnd_so]
  refine e_in ⟨by omega, by omega⟩ (by decide) (ok_lt.mpr ?_)
  rw [tnI (n := U) rfl (by omega), wj_e]
  generalize hw1 : wj u (pq q 2) U (mk (OfNat.ofNat 8) ((a : Int) - 1)) = w1
  have f1 : FC q [] [] [] [4, 7] [] [] [2, 6] u w1 := by rw [← hw1]; exact FC.wj_q FC.rf (by omega) (by simp)
  have r1 : ∀ i, w1.2.2.2 (pq q 2) i = if i = U then mk 8 ((a : Int) - 1) else u.2.2.2 (pq q 2) i := fun i => by rw [← hw1]; exact wj_row
  have s44 : ∀ (x : MS) (i : Nat) (y : Int64), (wj x (pq q 2) i y).2.2.2 44 = x.2.2.2 44 := fun x i y => if_neg (by unfold pq; omega)
  have q1 : w1.2.2.2 44 = u.2.2.2 44 := by rw [← hw1]; exact s44 _ _ _
  have main : ∀ x : Nat, x < 22 → OK (fun w _ => FC q [] [] [] [4, 7] [] [] [2, 6] u w ∧ (∃ ow2 kd2, PTQ w q n ow2 kd2 Fv P B W (Y + 1)) ∧ w.2.2.2 44 = u.2.2.2 44) (hb_Wl_post_169 N () w1 q (I ((a : Nat) : Int)) (I v3) (I v4) (I ((U : Nat) : Int)) c (pq q 2) (I ((U : Nat) : Int) + I 1) (I 1) (I ((x : Nat) : Int))) := by
    intro x hx
    unfold hb_Wl_post_169
    rw [e_make, bnd_so, I_add, show ((U : Nat) : Int) + 1 = ((U + 1 : Nat) : Int) by omega]
    refine e_in ⟨by omega, by omega⟩ (by decide) (ok_lt.mpr ?_)
    rw [tnI (n := U + 1) rfl (by omega), wj_e]
    generalize hw2 : wj w1 (pq q 2) (U + 1) (mk 1 ((x : Nat) : Int)) = w2
    have f2 : FC q [] [] [] [4, 7] [] [] [2, 6] u w2 := by rw [← hw2]; exact FC.wj_q f1 (by omega) (by simp)
    have r2 : ∀ i, w2.2.2.2 (pq q 2) i = if i = U + 1 then mk 1 ((x : Nat) : Int) else w1.2.2.2 (pq q 2) i := fun i => by rw [← hw2]; exact wj_row
    have q2 : w2.2.2.2 44 = u.2.2.2 44 := by rw [← hw2, s44]; exact q1
    have fin : ∀ (w3 : MS), FC q [] [] [] [4, 7] [] [] [2, 6] u w3 → w3.2.2.2 44 = u.2.2.2 44 → F w3 (pq q 4) = F u (pq q 4) → F w3 (pq q 7) = F u (pq q 7) → w3.2.2.2 (pq q 6) = u.2.2.2 (pq q 6) → (∀ i, ¬ (U ≤ i ∧ i < U + a) → w3.2.2.2 (pq q 2) i = u.2.2.2 (pq q 2) i) → w3.2.2.2 (pq q 2) U = mk 8 ((a : Int) - 1) → (∀ j, 1 ≤ j → j < a - 2 → ¬ isH (w3.2.2.2 (pq q 2) (U + j)) ∧ P (w3.2.2.2 (pq q 2) (U + j))) → OK (fun w _ => FC q [] [] [] [4, 7] [] [] [2, 6] u w ∧ (∃ ow2 kd2, PTQ w q n ow2 kd2 Fv P B W (Y + 1)) ∧ w.2.2.2 44 = u.2.2.2 44) (hb_Wl_post_193 N () w3 q (I ((a : Nat) : Int)) (I v3) (I ((U : Nat) : Int)) c) := by
      intro w3 f3 e44 e4 e7 e6 ho hU0 hmid
      unfold hb_Wl_post_193
      have ea : I ((U : Nat) : Int) + I ((a : Nat) : Int) - 2 = I ((U + (a - 2) : Nat) : Int) := by rw [I_lit (n := 2), I_add, I_sub]; congr 1; show _ - (2 : Int) = _; omega
      have eb : I ((U : Nat) : Int) + I ((a : Nat) : Int) - 1 = I ((U + (a - 1) : Nat) : Int) := by rw [lit1q, I_add, I_sub]; congr 1; omega
      rw [ea, eb, I_lit (n := 4), e_make, bnd_so]
      refine e_in ⟨by omega, by omega⟩ (by decide) (ok_lt.mpr ?_)
      rw [tnI (n := U + (a - 2)) rfl (by omega), wj_e]
      refine e_in ⟨by omega, by omega⟩ (by decide) (ok_lt.mpr ?_)
      rw [tnI (n := U + (a - 1)) rfl (by omega), wj_e]
      generalize hw5 : wj (wj w3 (pq q 2) (U + (a - 2)) (mk (OfNat.ofNat 4) v3)) (pq q 2) (U + (a - 1)) c = w5
      have f5 : FC q [] [] [] [4, 7] [] [] [2, 6] u w5 := by rw [← hw5]; exact FC.wj_q (FC.wj_q f3 (by omega) (by simp)) (by omega) (by simp)
      have r5 : ∀ i, w5.2.2.2 (pq q 2) i = if i = U + (a - 1) then c else if i = U + (a - 2) then mk 4 v3 else w3.2.2.2 (pq q 2) i := fun i => by rw [← hw5, wj_row, wj_row]
      have q5 : w5.2.2.2 44 = u.2.2.2 44 := by rw [← hw5, s44, s44]; exact e44
      have i5 : ∀ k, w5.1 k = w3.1 k := fun k => by rw [← hw5]; rfl
      have j5 : w5.2.2.2 (pq q 6) = u.2.2.2 (pq q 6) := by
        rw [← hw5, ← e6]
        show (if pq q 6 = pq q 2 then _ else if pq q 6 = pq q 2 then _ else w3.2.2.2 (pq q 6)) = _
        rw [if_neg (pq_inj (by decide)), if_neg (pq_inj (by decide))]
      rw [I_lit (n := 5), e_make, bnd_so]
      obtain ⟨ow2, kd2, G1, G2, G3⟩ := around_hp (h2 := w5.2.2.2 (pq q 2)) (U := U) (a := a) (s := s) p.1.2.2 (by omega) ha2 hno gc zc (by omega) (fun i hi => by rw [r5, if_neg (by omega), if_neg (by omega)]; exact ho i hi) (by rw [r5, if_neg (by omega), if_neg (by omega)]; exact hU0) (fun j j1 j2 => by
        rw [r5, if_neg (by omega)]
        by_cases e : U + j = U + (a - 2)
        · rw [if_pos e]
          have := GT_nu (n := n) (ow := ow) (kd := kd) (s := 4) cx (Or.inr (Or.inr rfl)) h3
          rcases this with z | z
          · exact z
          · exact absurd z.1 (nh_mk2 (by omega))
        · rw [if_neg e]; exact hmid j j1 (by omega)) (by rw [r5, if_pos rfl]) hn
      have p5 : PTQ w5 q n ow2 kd2 Fv P B W Y := by
        refine PTQ_cells p ?_ ?_ hn G1 G3
        · refine ⟨f5.1, f5.2.1, f5.2.2.1, f5.2.2.2.1, fun r k hk y => ?_, f5.2.2.2.2.2.1, f5.2.2.2.2.2.2.1, fun r k hk y => ?_⟩
          · by_cases e : r = q
            · subst e
              by_cases e2 : k = 7
              · subst e2
                rw [i5]
                exact Int32.toInt_inj.mp e7
              · exact f5.2.2.2.2.1 r k hk (fun _ => by have := y rfl; simp at this ⊢; omega)
            · exact f5.2.2.2.2.1 r k hk (fun z => absurd z e)
          · by_cases e : r = q
            · subst e
              by_cases e2 : k = 6
              · subst e2; exact j5
              · exact f5.2.2.2.2.2.2.2 r k hk (fun _ => by have := y rfl; simp at this ⊢; omega)
            · exact f5.2.2.2.2.2.2.2 r k hk (fun z => absurd z e)
        · show (w5.1 (pq q 4)).toInt = _
          rw [i5]
          show F w3 (pq q 4) = _
          rw [e4]; exact p.1.1
      refine ok_bnd.mpr (ok_mono (comes_ok (N := N) p5 hY G2) (fun w6 _ hw6 => ok_some.mpr ⟨FC.tr f5 (FC.mo hw6.1 (by simp) (by simp) (by simp) (by simp) (by simp) (by simp) (by simp)), ⟨ow2, kd2, hw6.2.1⟩, by rw [hw6.2.2]; exact q5⟩))
    have at1 : ¬ isH (mk 1 ((x : Nat) : Int)) ∧ P (mk 1 ((x : Nat) : Int)) := ⟨nh_mk2 (by omega), cx.2.2.2.2.2.1 _ (by omega) (by have := cx.2.2.2.1; omega)⟩
    have w2I : ∀ k, w2.1 k = u.1 k := fun k => by rw [← hw2, ← hw1]; rfl
    have w26 : w2.2.2.2 (pq q 6) = u.2.2.2 (pq q 6) := by
      rw [← hw2, ← hw1]
      show (if pq q 6 = pq q 2 then _ else if pq q 6 = pq q 2 then _ else u.2.2.2 (pq q 6)) = _
      rw [if_neg (pq_inj (by decide)), if_neg (pq_inj (by decide))]
    rw [I_lit (n := 5)]
    refine k_eq ⟨by omega, by omega⟩ ⟨by decide, by decide⟩ (fun y5 => ?_) (fun n5 => ?_)
    · have e5 : a = 5 := by have : ((a : Nat) : Int) = 5 := y5; omega
      rw [I_lit (n := 2), e_make, bnd_so, I_add]
      refine e_in ⟨by show 0 ≤ _ + (2 : Int); omega, by show _ + (2 : Int) < _; omega⟩ (by decide) (ok_lt.mpr ?_)
      rw [tnI (n := U + 2) (by show _ + (2 : Int) = _; omega) (by omega), wj_e]
      have r3 : ∀ i, (wj w2 (pq q 2) (U + 2) (mk (OfNat.ofNat 2) v4)).2.2.2 (pq q 2) i = if i = U + 2 then mk 2 v4 else w2.2.2.2 (pq q 2) i := fun i => wj_row
      refine fin _ (FC.wj_q f2 (by omega) (by simp)) (by rw [s44]; exact q2) (by show (w2.1 (pq q 4)).toInt = _; rw [w2I]; rfl) (by show (w2.1 (pq q 7)).toInt = _; rw [w2I]; rfl) ?_ (fun i hi => ?_) ?_ (fun j j1 j2 => ?_)
      · show (if pq q 6 = pq q 2 then _ else w2.2.2.2 (pq q 6)) = _
        rw [if_neg (pq_inj (by decide))]; exact w26
      · rw [r3, if_neg (by omega), r2, if_neg (by omega), r1, if_neg (by omega)]
      · rw [r3, if_neg (by omega), r2, if_neg (by omega), r1, if_pos rfl]
      · rcases (show j = 1 ∨ j = 2 by omega) with rfl | rfl
        · rw [r3, if_neg (by omega), r2, if_pos rfl]; exact at1
        · rw [r3, if_pos rfl]
          have := GT_nu (n := n) (ow := ow) (kd := kd) (s := 2) cx (Or.inr (Or.inl rfl)) h4
          rcases this with z | z
          · exact z
          · exact absurd z.1 (nh_mk2 (by omega))
    · have e4 : a = 4 := by
        rcases ha2 with e | e
        · exact e
        · exact absurd (show ((a : Nat) : Int) = 5 by omega) n5
      refine fin w2 f2 q2 (by show (w2.1 (pq q 4)).toInt = _; rw [w2I]; rfl) (by show (w2.1 (pq q 7)).toInt = _; rw [w2I]; rfl) w26 (fun i hi => ?_) ?_ (fun j j1 j2 => ?_)
      · rw [r2, if_neg (by omega), r1, if_neg (by omega)]
      · rw [r2, if_neg (by omega), r1, if_pos rfl]
      · have : j = 1 := by omega
        subst this
        rw [r2, if_pos rfl]; exact at1
  refine ok_br.mpr ⟨fun _ => main 8 (by omega), fun _ => main 9 (by omega)⟩
end
