set_option maxRecDepth 100000
section
variable {T : Nat → Option (Nat × Nat × List Nat × Nat × Nat)} {Fv : Int64 → Int64 → Prop} {P : Int64 → Prop} {u v w w1 : MS} {PR N q r n B W Y i h m g x j wb nb cb rk c f i2 h2 m2 g2 x2 j2 wb2 nb2 cb2 rk2 k a U d b e s l : Nat} {L L2 : List Nat} {ow kd : Nat → Nat} {t rest : Int64} {gi gl ga ki kl ka kj : List Nat}
theorem isReady_no (h1 : F u (pq q 7) ≤ F u (pq q 8)) (h2 : u.2.1 (pq q 10) = -1) : hm_Wl_isReady N u q = some (u, 0) := by
  unfold hm_Wl_isReady hb_Wl_isReady_0 hb_Wl_isReady_35 hb_Wl_isReady_39 hb_Wl_isReady_40
  rw [h2, I_F (k := pq q 8), I_F (k := pq q 7), decL (FRG1 u _).1 (FRG1 u _).2 (FRG1 u _).1 (FRG1 u _).2, decide_eq_false (by omega), br_fq]
  rfl
theorem isReady_any : ∃ r, hm_Wl_isReady N u q = some (u, r) := by
  unfold hm_Wl_isReady hb_Wl_isReady_0 hb_Wl_isReady_35 hb_Wl_isReady_39 hb_Wl_isReady_40
  repeat' (first | exact ⟨_, rfl⟩ | apply br_any)
theorem MI_bx {Y2 : Nat} (M : MIc T Fv P PR q u i h m L 0 x j wb nb cb rk) (fc : FC q [1105] [] [] [7, 8] [10] [] [6] u w) (p2 : PTQ w q n ow kd Fv P (nb + m) (wb + h) Y2) (h8 : 0 ≤ F w (pq q 8) ∧ F w (pq q 8) ≤ ((Y2 : Nat) : Int)) (e : F w 1105 = ((i2 : Nat) : Int)) (t2 : T i2 = some (h, m, L, 0, x2)) (hx2 : x2 ≠ 0 → x2 ≠ i2 → F w (pq q 8) < F w (pq q 7)) (hu : UNc w q x2) : MIc T Fv P PR q w i2 h m L 0 x2 j wb nb cb rk := by
  refine MI_new M fc (by simp) (by simp) ?_ (by rw [fc.Fq (by omega) (by simp)]; exact M.2.1) p2 (LNB_k (MI_ln M) fc (by simp)) (STc_s M.2.2.1 (fc.2.2.2.2.2.2.1 q 30 (by omega) (by simp)) (fc.2.2.2.2.2.2.1 q 37 (by omega) (by simp)) (fc.2.2.2.2.1 q 21 (by omega) (by simp)) (fc.2.2.2.2.1 q 28 (by omega) (by simp))) t2 e (GD0 M fc (by simp)) hx2 hu (BEGc M fc (by simp) (by simp))
  have sm := (M.1.1.2 q M.1.2.2.2.2.2.2.1).1
  exact ⟨by rw [fc.Fq (by omega) (by simp)]; exact sm.1, h8.1, fun _ => by rw [p2.2.2.2.1.1]; exact h8.2⟩
theorem next_okc {y0 : Int} (M : MIc T Fv P PR q u i h m L 0 i j wb nb cb rk) (t9 : F u 1109 = 0) (t8 : F u 1108 = 0) (hf : PHc T u q i i rk ≤ c) (t2 : T (i + 2) = some (h, m, L, 0, i)) (hlt0 : A u 23 (i - 1) = 0 ∨ ∃ lt0 : Nat, y0 = ((lt0 : Nat) : Int) ∧ i < lt0 ∧ T lt0 = some (h, m, L, 0, 0)) : OK (fun w _ => OPQ T Fv P PR q c w) (hm_Ma_nextMessage N u q (I y0)) := by
  obtain ⟨n, ow, kd, Y, p⟩ := MI_p M
  have mb := MI_b M
  have ln := MI_ln M
  have Yb := PTQ_b p
  have w2b := (M.1.2.2.1 _ _ _ _ _ _ t2).1
  have sm := (M.1.1.2 q M.1.2.2.2.2.2.2.1).1
  have a5 := M.2.2.2.1.2
  have sm8 := sm.2.2 (by rw [M.2.1]; decide)
  have sm80 := sm.2.1
  have e7 := p.2.2.2.1.1
  unfold hm_Ma_nextMessage hb_Ma_nextMessage_0 hb_Ma_nextMessage_78
  rw [I_F (k := pq q 7), I_F (k := pq q 8)]
  refine k_le (FRG1 u _) (FRG1 u _) (fun hle => ?_) (fun hlt => ok_lt.mpr (ok_some.mpr ?_))
  · obtain ⟨r, hr, hr2⟩ : ∃ r, hm_Wl_isReady N u q = some (u, r) ∧ (A u 23 (i - 1) = 0 → r = 0) := by
      by_cases z : A u 23 (i - 1) = 0
      · exact ⟨0, isReady_no hle (M.2.2.2.2.2.2.2 (by omega) z), fun _ => rfl⟩
      · obtain ⟨r, hr⟩ := isReady_any (N := N) (u := u) (q := q)
        exact ⟨r, hr, fun y => absurd y z⟩
    rw [hr, bnd_so]
    refine ok_br.mpr ⟨fun _ => ok_lt.mpr (ok_some.mpr ?_), fun zr => ok_lt.mpr (ok_lt.mpr (ok_lt.mpr (ok_some.mpr ?_)))⟩
    · rw [lit1q, wi_e]
      have f1 : FC q [] [] [] [9] [] [] [] u (wi u (pq q 9) 1) := FC.wi_q FC.rf (by omega) (by simp)
      have e9 : F (wi u (pq q 9) 1) (pq q 9) = 1 := by rw [F_wi (by decide) (by decide), if_pos rfl]
      have p1 : PTQ (wi u (pq q 9) 1) q n ow kd Fv P (nb + m) (wb + h) Y := PTQ_same p (fun k hk => if_neg (pq_inj (by simp at hk; omega))) (fun _ _ => rfl)
      generalize wi u (pq q 9) 1 = w at f1 e9 p1 ⊢
      have smw : SMQ w q := ⟨by rw [f1.Fq (by omega) (by simp)]; exact sm.1, by rw [f1.Fq (by omega) (by simp)]; exact sm.2.1, fun _ => by rw [f1.Fq (by omega) (by simp), f1.Fq (by omega) (by simp)]; exact sm8⟩
      have dw : DWc Fv P PR w := DWc_fc M.1.1 f1 M.1.2.2.2.2.2.2.1 (by rw [M.2.1]; decide) (by rw [e9]; decide) smw ⟨n, ow, kd, _, _, Y, p1⟩ (by simp) (by simp)
      exact Or.inr (Or.inr (Or.inr ⟨GEN_f M.1 f1 dw (by simp) (by simp) (LNB_k ln f1 (by simp)), ⟨by rw [e9]; decide, fun z => by rw [e9] at z; exact absurd z (by decide)⟩, by rw [f1.Fg (by omega) (by simp)]; exact t9, i, h, m, L, i, j, wb, nb, cb, rk, STc_s M.2.2.1 (f1.2.2.2.2.2.2.1 q 30 (by omega) (by simp)) (f1.2.2.2.2.2.2.1 q 37 (by omega) (by simp)) (f1.2.2.2.2.1 q 21 (by omega) (by simp)) (f1.2.2.2.2.1 q 28 (by omega) (by simp)), ⟨M.2.2.2.1.1, by rw [f1.Fg (by omega) (by simp)]; exact a5⟩, Or.inr rfl, ⟨p1.2.2.1.1, p1.2.1.1⟩, UN_k M.2.2.2.2.2.2.2 (f1.2.2.2.2.2.1 q 10 (by omega) (by simp)) (f1.2.2.1 23 (by omega) (by simp))⟩))
    · obtain ⟨lt0, rfl, hl, tl⟩ : ∃ lt0 : Nat, y0 = ((lt0 : Nat) : Int) ∧ i < lt0 ∧ T lt0 = some (h, m, L, 0, 0) := by
        rcases hlt0 with z | z
        · rw [hr2 z] at zr; exact absurd zr (by decide)
        · exact z
      have wlb := (M.1.2.2.1 _ _ _ _ _ _ tl).1
      rw [lit0q, wi_e, wl_e, wi_e]
      have f1 : FC q [1105] [] [] [7, 8] [10] [] [6] u (wi (wl (wi u (pq q 8) 0) (pq q 10) (-1)) 1105 ((lt0 : Nat) : Int)) := FC.wi_g (FC.wl_q (FC.wi_q FC.rf (by omega) (by simp)) (by omega) (by simp)) (by omega) (by simp)
      have e8 : F (wi (wl (wi u (pq q 8) 0) (pq q 10) (-1)) 1105 ((lt0 : Nat) : Int)) (pq q 8) = 0 := by
        rw [F_wi (by omega) (by omega), if_neg (by unfold pq; omega)]
        show F (wi u (pq q 8) 0) (pq q 8) = 0
        rw [F_wi (by decide) (by decide), if_pos rfl]
      have p1 : PTQ (wi (wl (wi u (pq q 8) 0) (pq q 10) (-1)) 1105 ((lt0 : Nat) : Int)) q n ow kd Fv P (nb + m) (wb + h) Y := PT_g (by omega) (PTQ_same p (fun k hk => if_neg (pq_inj (by simp at hk; omega))) (fun _ _ => rfl))
      refine NRM_n (MI_bx M f1 p1 (by rw [e8]; omega) (at_F (by omega)) tl (fun z => absurd rfl z) (fun z => absurd rfl z)) hf (f1.Fg (by omega) (by simp)) (f1.Fg (by omega) (by simp)) ?_ (by rw [f1.Fg (by omega) (by simp)]; exact t9) (by rw [f1.Fg (by omega) (by simp)]; exact t8)
      have := pot_0 (t := (F u (pq q 8)).toNat) (t2 := (F (wi (wl (wi u (pq q 8) 0) (pq q 10) (-1)) 1105 ((lt0 : Nat) : Int)) (pq q 8)).toNat) M.2.2.2.1.1 mb.1.2 (Nat.le_refl _) hl
      omega
  · rw [I_lit (n := 2), at_e a5, show ((i : Nat) : Int) + (OfNat.ofNat 2 : Int) = ((i + 2 : Nat) : Int) by show _ + (2 : Int) = _; omega]
    have f1 : FC q [1105] [] [] [7, 8] [10] [] [6] u (wi u 1105 ((i + 2 : Nat) : Int)) := FC.wi_g FC.rf (by omega) (by simp)
    have e8 : F (wi u 1105 ((i + 2 : Nat) : Int)) (pq q 8) = F u (pq q 8) := by rw [F_wi (by omega) (by omega), if_neg (by unfold pq; omega)]
    have e7b : F (wi u 1105 ((i + 2 : Nat) : Int)) (pq q 7) = F u (pq q 7) := by rw [F_wi (by omega) (by omega), if_neg (by unfold pq; omega)]
    refine NRM_n (MI_bx M f1 (PT_g (by omega) p) (by rw [e8]; omega) (at_F (by omega)) t2 (fun _ _ => by rw [e8, e7b]; exact hlt) (UN_k M.2.2.2.2.2.2.2 rfl rfl)) hf (f1.Fg (by omega) (by simp)) (f1.Fg (by omega) (by simp)) ?_ (by rw [f1.Fg (by omega) (by simp)]; exact t9) (by rw [f1.Fg (by omega) (by simp)]; exact t8)
    rw [e8]
    have := pot_x (j := i + 2) (t := (F u (pq q 8)).toNat) M.2.2.2.1.1 mb.1.2 (by omega)
    omega
theorem take_okc (M : MIc T Fv P PR q u i h m L 0 x j wb nb cb rk) (hx : x < i) (t9 : F u 1109 = 0) (t8 : F u 1108 = 0) (hf : PHc T u q i x rk ≤ c) (hx0 : x ≠ 0) (t2 : T (i + 1) = some (h, m, L, 0, 0)) : OK (fun w _ => OPQ T Fv P PR q c w) (bnd (hm_Pr_takeMessage N u q) (fun u4 _ => lt (upI u4 1105 ((u4.1 1105) + 1)) (fun w7 => some (w7, ())))) := by
  obtain ⟨n, ow, kd, Y, p⟩ := MI_p M
  have mb := MI_b M
  have w2b := (M.1.2.2.1 _ _ _ _ _ _ t2).1
  have Yb := PTQ_b p
  have sm := (M.1.1.2 q M.1.2.2.2.2.2.2.1).1
  have xx := M.2.2.2.2.2.2.1 hx0 (by omega)
  have sm80 := sm.2.1
  have e7 := p.2.2.2.1.1
  obtain ⟨⟨p1, p2, p3⟩, ⟨p4, p5⟩, ⟨p6, p7⟩, ⟨p8, p9⟩, ⟨l, a1, a2⟩, ⟨l2, b1, b2⟩, cc⟩ := p
  refine ok_bnd.mpr ?_
  unfold hm_Pr_takeMessage hb_Pr_takeMessage_0 hb_Pr_takeMessage_53
  rw [I_F (k := pq q 7), I_F (k := pq q 8)]
  refine k_le (FRG1 u _) (FRG1 u _) (fun z => absurd z (by omega)) (fun _ => ?_)
  rw [lit1q, I_add, I_sub, I_sub]
  have r8 := F_r u (pq q 8)
  refine e_cp ⟨by omega, by omega, by omega, by omega, by omega⟩ (by decide) (by decide) (ok_lt.mpr (ok_lt.mpr (ok_lt.mpr (ok_lt.mpr (ok_some.mpr ?_)))))
  obtain ⟨tr, htr⟩ : ∃ tr : Nat, F u (pq q 8) = ((tr : Nat) : Int) := ⟨(F u (pq q 8)).toNat, by omega⟩
  rw [htr, e7]
  rw [tnI (n := tr + 1) (x := ((tr : Nat) : Int) + 1) (by omega) (by omega), tnI (n := tr) rfl (by omega), tnI (n := Y - tr - 1) (by omega) (by omega)]
  generalize hg : va_cpy (u.2.2.2 (pq q 6)) (u.2.2.2 (pq q 6)) (tr + 1) tr (Y - tr - 1) = gg
  have gg1 : ∀ k, k < Y - 1 → GT n ow kd P (gg k) := fun k hk => by
    rw [← hg]
    by_cases z : tr ≤ k
    · have := cpy_in (f := u.2.2.2 (pq q 6)) (g := u.2.2.2 (pq q 6)) (a := tr + 1) (c := tr) (k := Y - tr - 1) (j := k - tr) (by omega)
      rw [show tr + (k - tr) = k by omega] at this
      rw [this]; exact p9 _ (by omega)
    · rw [cpy_out (by omega)]; exact p9 k (by omega)
  rw [show (upJ u (pq q 6) gg).1 (pq q 7) = I ((Y : Nat) : Int) by show u.1 (pq q 7) = _; rw [I_F, e7], I_sub, show ((Y : Nat) : Int) - 1 = ((Y - 1 : Nat) : Int) by omega, wi_e, lit0q, wi_e, wl_e]
  refine ok_lt.mpr (ok_some.mpr ?_)
  have f1 : FC q [1105] [] [] [7, 8] [10] [] [6] u (wl (wi (wi (upJ u (pq q 6) gg) (pq q 7) ((Y - 1 : Nat) : Int)) (pq q 8) 0) (pq q 10) (-1)) := FC.wl_q (FC.wi_q (FC.wi_q (FC.J_q FC.rf (by omega) (by simp)) (by omega) (by simp)) (by omega) (by simp)) (by omega) (by simp)
  have e8 : F (wl (wi (wi (upJ u (pq q 6) gg) (pq q 7) ((Y - 1 : Nat) : Int)) (pq q 8) 0) (pq q 10) (-1)) (pq q 8) = 0 := by
    show F (wi _ (pq q 8) 0) (pq q 8) = 0
    rw [F_wi (by decide) (by decide), if_pos rfl]
  have e7b : F (wl (wi (wi (upJ u (pq q 6) gg) (pq q 7) ((Y - 1 : Nat) : Int)) (pq q 8) 0) (pq q 10) (-1)) (pq q 7) = ((Y - 1 : Nat) : Int) := by
    show F (wi _ (pq q 8) 0) (pq q 7) = _
    rw [F_wi (by decide) (by decide), if_neg (pq_inj (by decide)), F_wi (by omega) (by omega), if_pos rfl]
  have e5 : F (wl (wi (wi (upJ u (pq q 6) gg) (pq q 7) ((Y - 1 : Nat) : Int)) (pq q 8) 0) (pq q 10) (-1)) 1105 = ((i : Nat) : Int) := by
    show F (wi _ (pq q 8) 0) 1105 = _
    rw [F_wi (by decide) (by decide), if_neg (by unfold pq; omega), F_wi (by omega) (by omega), if_neg (by unfold pq; omega)]
    exact M.2.2.2.1.2
  have r6 : (wl (wi (wi (upJ u (pq q 6) gg) (pq q 7) ((Y - 1 : Nat) : Int)) (pq q 8) 0) (pq q 10) (-1)).2.2.2 (pq q 6) = gg := upJ_row
  generalize wl (wi (wi (upJ u (pq q 6) gg) (pq q 7) ((Y - 1 : Nat) : Int)) (pq q 8) 0) (pq q 10) (-1) = w at f1 e8 e7b e5 r6 ⊢
  have pw : PTQ w q n ow kd Fv P (nb + m) (wb + h) (Y - 1) := ⟨⟨by rw [f1.Fq (by omega) (by simp)]; exact p1, p2, by rw [f1.jq (by omega) (by simp)]; exact p3⟩, ⟨by rw [f1.Fq (by omega) (by simp)]; exact p4, by rw [f1.jq (by omega) (by simp)]; exact p5⟩, ⟨by rw [f1.Fq (by omega) (by simp)]; exact p6, by rw [f1.jq (by omega) (by simp)]; exact p7⟩, ⟨e7b, fun k hk => by rw [r6]; exact gg1 k hk⟩, ⟨l, by rw [f1.Fq (by omega) (by simp)]; exact a1, a2⟩, ⟨l2, by rw [f1.Fq (by omega) (by simp)]; exact b1, b2⟩, by omega⟩
  rw [at_e e5, show ((i : Nat) : Int) + 1 = ((i + 1 : Nat) : Int) by omega]
  have f2 : FC q [1105] [] [] [7, 8] [10] [] [6] u (wi w 1105 ((i + 1 : Nat) : Int)) := FC.wi_g f1 (by omega) (by simp)
  have e82 : F (wi w 1105 ((i + 1 : Nat) : Int)) (pq q 8) = 0 := by rw [F_wi (by omega) (by omega), if_neg (by unfold pq; omega)]; exact e8
  refine NRM_n (MI_bx M f2 (PT_g (by omega) pw) (by rw [e82]; omega) (at_F (by omega)) t2 (fun z => absurd rfl z) (fun z => absurd rfl z)) hf (f2.Fg (by omega) (by simp)) (f2.Fg (by omega) (by simp)) ?_ (by rw [f2.Fg (by omega) (by simp)]; exact t9) (by rw [f2.Fg (by omega) (by simp)]; exact t8)
  have := pot_0 (j := i + 1) (t := (F u (pq q 8)).toNat) (t2 := (F (wi w 1105 ((i + 1 : Nat) : Int)) (pq q 8)).toNat) M.2.2.2.1.1 mb.1.2 (by omega) (by omega)
  omega
theorem skip_okc (M : MIc T Fv P PR q u i h m L 0 x j wb nb cb rk) (hx : x < i) (t9 : F u 1109 = 0) (t8 : F u 1108 = 0) (hf : PHc T u q i x rk ≤ c) (hx0 : x ≠ 0) (t2 : T x = some (h, m, L, 0, x)) : OPQ T Fv P PR q c (upI (upI u (pq q 8) ((u.1 (pq q 8)) + 1)) 1105 (I ((x : Nat) : Int))) := by
  obtain ⟨n, ow, kd, Y, p⟩ := MI_p M
  have mb := MI_b M
  have Yb := PTQ_b p
  have sm := (M.1.1.2 q M.1.2.2.2.2.2.2.1).1
  have xx := M.2.2.2.2.2.2.1 hx0 (by omega)
  have sm80 := sm.2.1
  have e7 := p.2.2.2.1.1
  rw [I_F (k := pq q 8), lit1q, I_add, wi_e, wi_e]
  have f2 : FC q [1105] [] [] [7, 8] [10] [] [6] u (wi (wi u (pq q 8) (F u (pq q 8) + 1)) 1105 ((x : Nat) : Int)) := FC.wi_g (FC.wi_q FC.rf (by omega) (by simp)) (by omega) (by simp)
  have e8 : F (wi (wi u (pq q 8) (F u (pq q 8) + 1)) 1105 ((x : Nat) : Int)) (pq q 8) = F u (pq q 8) + 1 := by rw [F_wi (by omega) (by omega), if_neg (by unfold pq; omega), F_wi (by omega) (by omega), if_pos rfl]
  have p2 : PTQ (wi (wi u (pq q 8) (F u (pq q 8) + 1)) 1105 ((x : Nat) : Int)) q n ow kd Fv P (nb + m) (wb + h) Y := PT_g (by omega) (PTQ_same p (fun k hk => if_neg (pq_inj (by simp at hk; omega))) (fun _ _ => rfl))
  refine NRM_n (MI_bx M f2 p2 (by rw [e8]; omega) (at_F (by omega)) t2 (fun _ z => absurd rfl z) (UN_k M.2.2.2.2.2.2.2 rfl rfl)) hf (f2.Fg (by omega) (by simp)) (f2.Fg (by omega) (by simp)) ?_ (by rw [f2.Fg (by omega) (by simp)]; exact t9) (by rw [f2.Fg (by omega) (by simp)]; exact t8)
  rw [e8, show (F u (pq q 8) + 1).toNat = (F u (pq q 8)).toNat + 1 by omega]
  have := pot_sk (t := (F u (pq q 8)).toNat) M.2.2.2.1.1 mb.1.2 hx0 (by omega)
  omega
theorem returns_okc (M : MIc T Fv P PR q u i h m [] 0 0 j wb nb cb rk) (t9 : F u 1109 = 0) (t8 : F u 1108 = 0) (hf : PHc T u q i 0 rk ≤ c) (hh : 1 ≤ h) : OK (fun w _ => OPQ T Fv P PR q c w) (hm_Ma_returns N u q) := by
  obtain ⟨n, ow, kd, Y, p⟩ := MI_p M
  have mb := MI_b M
  have ln := MI_ln M
  obtain ⟨b0, g0⟩ := below_0 (N := N) M p (by omega)
  obtain ⟨s1, ⟨s2, s3⟩, ⟨s4, s5⟩, s6, s7⟩ := M.2.2.1
  unfold hm_Ma_returns hb_Ma_returns_0
  rw [I_F (k := pq q 21), s2, lit1q]
  refine k_lt ⟨by decide, by decide⟩ ⟨by omega, by omega⟩ (fun hj => ?_) (fun _ => ?_)
  · obtain ⟨jj, rfl⟩ : ∃ jj, j = jj + 1 := ⟨j - 1, by omega⟩
    rw [b0, bnd_so]
    generalize u.2.2.2 (pq q 35) (wb + h - 1) = tm at g0
    unfold hm_Fr_leave hb_Fr_leave_0
    refine ok_bnd.mpr (ok_bnd.mpr ?_)
    rw [I_F (k := pq q 21), s2, lit1q, I_sub, I_lit (n := 3), of_e (z := 3) (a := jj + 1) (k := 3) s2 s3 (by omega) (Nat.le_refl _) rfl (by omega), s5]
    refine ok_some.mpr (ok_lt.mpr ?_)
    rw [wi_e]
    obtain ⟨d1, d2⟩ := drop_t (k := h) p (by omega)
    rw [show wb + h - h = wb by omega] at d1 d2
    have y21 : F (wi u (pq q 26) ((wb : Nat) : Int)) (pq q 21) = ((jj + 1 + 1 : Nat) : Int) := by rw [F_wi (by omega) (by omega), if_neg (pq_inj (by decide))]; exact s2
    have yA : ∀ a, A (wi u (pq q 26) ((wb : Nat) : Int)) (pq q 30) a = A u (pq q 30) a := fun _ => rfl
    have f1 : FC q [1105] [] [] [21, 24, 26, 45] [] [] [35] u (wi u (pq q 26) ((wb : Nat) : Int)) := FC.wi_q FC.rf (by omega) (by simp)
    have ln1 : LNB (wi u (pq q 26) ((wb : Nat) : Int)) q := LNB_m ln (by simp) (by omega)
    generalize wi u (pq q 26) ((wb : Nat) : Int) = w1 at d1 d2 y21 yA f1 ln1 ⊢
    rw [I_F (k := pq q 21), y21, I_sub, I_lit (n := 2)]
    refine ok_bnd.mpr ?_
    rw [of_e (z := 2) (a := jj + 1) (k := 2) y21 s3 (by omega) (Nat.le_refl _) rfl (by omega), yA, s4]
    refine ok_some.mpr (ok_lt.mpr (ok_lt.mpr (ok_some.mpr ?_)))
    rw [wi_e]
    obtain ⟨d3, d4⟩ := forget_t (k := m) d2 (by omega)
    rw [show nb + m - m = nb by omega] at d3 d4
    have z21 : (wi w1 (pq q 24) ((nb : Nat) : Int)).1 (pq q 21) = I ((jj + 1 + 1 : Nat) : Int) := by
      show (if pq q 21 = pq q 24 then _ else w1.1 (pq q 21)) = _
      rw [if_neg (pq_inj (by decide)), I_F, y21]
    rw [z21, I_sub, show ((jj + 1 + 1 : Nat) : Int) - 1 = ((jj + 1 : Nat) : Int) by omega, wi_e]
    have f2 : FC q [1105] [] [] [21, 24, 26, 45] [] [] [35] u (wi (wi w1 (pq q 24) ((nb : Nat) : Int)) (pq q 21) ((jj + 1 : Nat) : Int)) := FC.wi_q (FC.wi_q f1 (by omega) (by simp)) (by omega) (by simp)
    have p2 : PTQ (wi (wi w1 (pq q 24) ((nb : Nat) : Int)) (pq q 21) ((jj + 1 : Nat) : Int)) q n ow kd Fv P nb wb Y := PTQ_same d4 (fun k hk => if_neg (pq_inj (by simp at hk; omega))) (fun _ _ => rfl)
    have ln2 : LNB (wi (wi w1 (pq q 24) ((nb : Nat) : Int)) (pq q 21) ((jj + 1 : Nat) : Int)) q := LNB_m (LNB_m ln1 (by simp) (by omega)) (by simp) (by omega)
    have x21 : F (wi (wi w1 (pq q 24) ((nb : Nat) : Int)) (pq q 21) ((jj + 1 : Nat) : Int)) (pq q 21) = ((jj + 1 : Nat) : Int) := by rw [F_wi (by omega) (by omega), if_pos rfl]
    have xA : ∀ a, A (wi (wi w1 (pq q 24) ((nb : Nat) : Int)) (pq q 21) ((jj + 1 : Nat) : Int)) (pq q 30) a = A u (pq q 30) a := yA
    generalize wi (wi w1 (pq q 24) ((nb : Nat) : Int)) (pq q 21) ((jj + 1 : Nat) : Int) = w2 at f2 p2 ln2 x21 xA ⊢
    obtain ⟨wb0, nb0, cb0, rk0, h0, m0, L0, a0, c1, c2, c3, c4, c5, c6, c7, c8, c9, c9b, c10⟩ := s1
    have wab := (M.1.2.2.1 _ _ _ _ _ _ c5)
    refine ok_bnd.mpr (ok_mono (push_t (N := N) p2 ln2 (by omega) g0) (fun w3 _ hw3 => ?_))
    obtain ⟨f3, p3, ln3, -⟩ := hw3
    have f4 : FC q [1105] [] [] [4, 5, 21, 24, 26, 42, 43, 45] [] [32] [2, 3, 33, 35, 6] u w3 := FC.tr (FC.mo f2 (by simp) (by simp) (by simp) (by simp) (by simp) (by simp) (by simp)) (FC.mo f3 (by simp) (by simp) (by simp) (by simp) (by simp) (by simp) (by simp))
    have v21 : F w3 (pq q 21) = ((jj + 1 : Nat) : Int) := by rw [f3.Fq (by omega) (by simp)]; exact x21
    unfold hm_Fr_place hb_Fr_place_0
    refine ok_bnd.mpr ?_
    rw [I_F (k := pq q 21), v21, lit1q, I_sub, I_lit (n := 4)]
    refine ok_bnd.mpr ?_
    rw [of_e (z := 4) (a := jj) (k := 4) v21 (by omega) (by omega) (Nat.le_refl _) rfl (by omega), show A w3 (pq q 30) (5 * jj + 4) = ((a0 : Nat) : Int) by rw [f3.aq (by omega) (by simp), xA]; exact c4]
    refine ok_some.mpr (ok_some.mpr (ok_lt.mpr (ok_some.mpr ?_)))
    rw [wi_e]
    have f5 : FC q [1105] [] [] [4, 5, 21, 24, 26, 42, 43, 45] [] [32] [2, 3, 33, 35, 6] u (wi w3 1105 ((a0 : Nat) : Int)) := FC.wi_g f4 (by omega) (by simp)
    have r30 := f5.2.2.2.2.2.2.1 q 30 (by omega) (by simp)
    have r37 := f5.2.2.2.2.2.2.1 q 37 (by omega) (by simp)
    have w21 : F (wi w3 1105 ((a0 : Nat) : Int)) (pq q 21) = ((jj + 1 : Nat) : Int) := by rw [F_wi (by omega) (by omega), if_neg (by unfold pq; omega)]; exact v21
    have M5 : MIc T Fv P PR q (wi w3 1105 ((a0 : Nat) : Int)) a0 (h0 + 1) m0 L0 0 0 jj wb0 nb0 cb0 rk0 := by
      refine MI_new M f5 (by simp) (by simp) (SMQ_f M f5 (by simp)) (by rw [f5.Fq (by omega) (by simp)]; exact M.2.1) (n := n) (ow := ow) (kd := kd) (Y := Y) ?_ (LNB_g ln3 (by omega)) ⟨FBc_s r30 r37 c1, ⟨w21, by omega⟩, ⟨by rw [f5.aq (by omega) (by simp)]; exact c2, by rw [f5.aq (by omega) (by simp)]; exact c3⟩, ?_, ENT_s r37 c10⟩ c5 (at_F (by omega)) (GD0 M f5 (by simp)) (fun z => absurd rfl z) (fun z => absurd rfl z) (BEGc M f5 (by simp) (by simp))
      · rw [show nb0 + m0 = nb by omega, show wb0 + (h0 + 1) = wb + 1 by omega]
        exact PT_g (by omega) p3
      · rw [f5.Fq (by omega) (by simp), s6]
        show ((cb + 0 : Nat) : Int) = _
        omega
    refine NRM_n M5 hf (f5.Fg (by omega) (by simp)) (f5.Fg (by omega) (by simp)) ?_ (by rw [f5.Fg (by omega) (by simp)]; exact t9) (by rw [f5.Fg (by omega) (by simp)]; exact t8)
    have := pot_x (j := i + 1) (t := (F u (pq q 8)).toNat) M.2.2.2.1.1 mb.1.2 (by omega)
    have e0 : potc T a0 0 (F (wi w3 1105 ((a0 : Nat) : Int)) (pq q 8)).toNat = 32 * cKc T a0 24000 := by unfold potc; rw [if_pos rfl]
    rw [e0]; omega
  · refine ok_bnd.mpr (ok_mono (endsBy_w (N := N) (a := 4) M.1 (by rw [M.2.1]; decide) (by omega)) (fun w3 _ hw3 => ok_some.mpr (Or.inr (Or.inr (Or.inl (END_w M.1 hw3.1 hw3.2 t9 (M21 M)))))))
end
