def SVD (σ s : Nat) (u v : MS) : Prop := (A v 74 (8 * s) = F u 32 ∧ A v 74 (8 * s + 1) = F u 39 ∧ A v 74 (8 * s + 2) = F u 46 ∧ A v 74 (8 * s + 3) = F u 56 ∧ A v 74 (8 * s + 4) = F u 58 ∧ A v 74 (8 * s + 5) = F u 71 ∧ A v 74 (8 * s + 6) = F u 72 ∧ A v 74 (8 * s + 7) = F u 66) ∧ ∀ t, t ≤ σ → A v 76 (54 * s + 2 * t) = A u 60 t ∧ A v 76 (54 * s + 2 * t + 1) = A u 63 t
section
variable {α : Type} {Q : MS → α → Prop} {u0 u v w x : MS} {N σ s TN SN : Nat} {p o n q c f h wt g p2 o2 n2 q2 c2 f2 h2 w2 y : Int}
theorem SVD_kp (h : SVD σ s u v) (k : KPR σ v w) (h75 : F v 75 = 8 * (s : Int) + 8) (h77 : F v 77 = 54 * (s : Int) + 54) (hσ : σ ≤ 26) : SVD σ s u w := by
  obtain ⟨⟨a0, a1, a2, a3, a4, a5, a6, a7⟩, b⟩ := h
  obtain ⟨-, -, -, ⟨k1, k2, -⟩, -⟩ := k
  refine ⟨⟨?_, ?_, ?_, ?_, ?_, ?_, ?_, ?_⟩, fun t ht => ⟨?_, ?_⟩⟩
  · rw [k1 _ (by omega)]; exact a0
  · rw [k1 _ (by omega)]; exact a1
  · rw [k1 _ (by omega)]; exact a2
  · rw [k1 _ (by omega)]; exact a3
  · rw [k1 _ (by omega)]; exact a4
  · rw [k1 _ (by omega)]; exact a5
  · rw [k1 _ (by omega)]; exact a6
  · rw [k1 _ (by omega)]; exact a7
  · rw [k2 _ (by omega)]; exact (b t ht).1
  · rw [k2 _ (by omega)]; exact (b t ht).2
theorem save_loop (hσ : σ ≤ 26) (hs : s ≤ 26) : ∀ (m i : Nat) (v : MS), F v 65 = σ → F v 77 = 54 * (s : Int) → i ≤ σ + 1 → σ + 1 - i < m → (∀ t, t < i → A v 76 (54 * s + 2 * t) = A v 60 t ∧ A v 76 (54 * s + 2 * t + 1) = A v 63 t) → OK (fun w _ => ∃ w1, FR [] [] [76] [] v w1 ∧ (∀ j, j < 54 * s → A w1 76 j = A v 76 j) ∧ (∀ t, t ≤ σ → A w1 76 (54 * s + 2 * t) = A v 60 t ∧ A w1 76 (54 * s + 2 * t + 1) = A v 63 t) ∧ w = wi w1 77 (54 * (s : Int) + 54)) (gg_M_save N m v (I (i : Int))) := by
  intro m
  induction m with
  | zero => intro i v _ _ _ z; exact absurd z (Nat.not_lt_zero _)
  | succ m ih =>
    intro i v h65 h77 hi hm ht
    show OK _ (fb_M_save_141 N (gg_M_save N m) v (I (i : Int)))
    unfold fb_M_save_141
    simp only [lt_e]
    rw [I_F' h65]
    refine k_lt ⟨by omega, by omega⟩ ⟨by omega, by omega⟩ (fun e => ?_) (fun e => ?_)
    · rw [I_F' h77, show (54 : Int32) = I 54 from rfl, I_add, wi_e]
      exact ok_some.mpr ⟨v, FR.rf, fun _ _ => rfl, fun t h1 => ht t (by omega), rfl⟩
    · have ts : (I (i : Int)).toNatClampNeg = i := by rw [I_tn (by omega) (by omega)]; omega
      have t1 : (I (54 * (s : Int) + 2 * i)).toNatClampNeg = 54 * s + 2 * i := by rw [I_tn (by omega) (by omega)]; omega
      have t2 : (I (54 * (s : Int) + 2 * i + 1)).toNatClampNeg = 54 * s + 2 * i + 1 := by rw [I_tn (by omega) (by omega)]; omega
      refine k_in (k := 60) (n := 27) rfl (by decide) (by omega) ?_
      rw [I_F' h77, show (2 : Int32) = I 2 from rfl, I_mul, I_add, ts, t1, I_A (w := v) (k := 60)]
      refine k_in (k := 76) (n := 3240) rfl (by decide) (by omega) ?_
      rw [wa_e]
      refine k_in (k := 63) (n := 27) rfl (by decide) (by omega) ?_
      rw [I_F' (show F (wa v 76 (54 * s + 2 * i) (A v 60 i)) 77 = 54 * (s : Int) from h77), I_add, lit1q, I_add, t2, I_A (w := wa v 76 (54 * s + 2 * i) (A v 60 i)) (k := 63), wa_rne (by decide)]
      refine k_in (k := 76) (n := 3240) rfl (by decide) (by omega) ?_
      rw [wa_e, I_add, show (i : Int) + 1 = ((i + 1 : Nat) : Int) from by omega]
      have y76 : ∀ j, A (wa (wa v 76 (54 * s + 2 * i) (A v 60 i)) 76 (54 * s + 2 * i + 1) (A v 63 i)) 76 j = if j = 54 * s + 2 * i + 1 then A v 63 i else if j = 54 * s + 2 * i then A v 60 i else A v 76 j := fun j => by
        rw [A_wa (A_r v 63 i).1 (A_r v 63 i).2, if_pos rfl, A_wa (A_r v 60 i).1 (A_r v 60 i).2, if_pos rfl]
      have fr : FR [] [] [76] [] v (wa (wa v 76 (54 * s + 2 * i) (A v 60 i)) 76 (54 * s + 2 * i + 1) (A v 63 i)) := FR.wa (FR.wa FR.rf (by decide)) (by decide)
      generalize wa (wa v 76 (54 * s + 2 * i) (A v 60 i)) 76 (54 * s + 2 * i + 1) (A v 63 i) = v2 at *
      refine ok_mono (ih (i + 1) v2 (by rw [fr.F (by decide)]; exact h65) (by rw [fr.F (by decide)]; exact h77) (by omega) (by omega) (fun t h1 => ?_)) (fun w _ hw => ?_)
      · rw [y76, y76, fr.A (by decide), fr.A (by decide)]
        by_cases z : t = i
        · rw [if_neg (by omega), if_pos (by omega), if_pos (by omega), z]; exact ⟨rfl, rfl⟩
        · rw [if_neg (by omega), if_neg (by omega), if_neg (by omega), if_neg (by omega)]; exact ht t (by omega)
      · obtain ⟨w1, f1, f2, f3, f4⟩ := hw
        refine ⟨w1, FR.tr fr f1, fun j hj => ?_, fun t h1 => ?_, f4⟩
        · rw [f2 j hj, y76, if_neg (by omega), if_neg (by omega)]
        · have := f3 t h1
          rw [fr.A (by decide), fr.A (by decide)] at this
          exact this
theorem save_ok (hN : 5000 ≤ N) (hσ : σ ≤ 26) (hs : s ≤ 26) (h65 : F u 65 = σ) (h75 : F u 75 = 8 * (s : Int)) (h77 : F u 77 = 54 * (s : Int)) (h66 : F u 66 = 0 ∨ F u 66 = 1) : OK (fun v _ => FR [75, 77] [] [74, 76] [] u v ∧ F v 75 = 8 * (s : Int) + 8 ∧ F v 77 = 54 * (s : Int) + 54 ∧ (∀ j, j < 8 * s → A v 74 j = A u 74 j) ∧ (∀ j, j < 54 * s → A v 76 j = A u 76 j) ∧ SVD σ s u v) (fm_M_save N u) := by
  unfold fm_M_save fb_M_save_0
  simp only [lt_e]
  have e : ∀ (v : MS) (k : Nat), v.1 = u.1 → v.1 k = I (F u k) := fun v k h => by rw [h]; exact I_F
  have tn : ∀ j : Nat, j ≤ 7 → (I (8 * (s : Int) + j)).toNatClampNeg = 8 * s + j := fun j hj => by rw [I_tn (by omega) (by omega)]; omega
  have tn0 : (I (8 * (s : Int))).toNatClampNeg = 8 * s := by rw [I_tn (by omega) (by omega)]; omega
  have l : (1 : Int32) = I ((1 : Nat) : Int) ∧ (2 : Int32) = I ((2 : Nat) : Int) ∧ (3 : Int32) = I ((3 : Nat) : Int) ∧ (4 : Int32) = I ((4 : Nat) : Int) ∧ (5 : Int32) = I ((5 : Nat) : Int) ∧ (6 : Int32) = I ((6 : Nat) : Int) ∧ (7 : Int32) = I ((7 : Nat) : Int) := ⟨rfl, rfl, rfl, rfl, rfl, rfl, rfl⟩
  obtain ⟨l1, l2, l3, l4, l5, l6, l7⟩ := l
  rw [I_F' h75, tn0, I_F (w := u) (k := 32)]
  refine k_in (k := 74) (n := 400) rfl (by decide) (by omega) ?_
  rw [wa_e]
  generalize g1 : wa u 74 (8 * s) (F u 32) = v1
  rw [e v1 75 (by rw [← g1]; rfl), e v1 39 (by rw [← g1]; rfl), h75, l1, I_add, tn 1 (by omega)]
  refine k_in (k := 74) (n := 400) rfl (by decide) (by omega) ?_
  rw [wa_e]
  generalize g2 : wa v1 74 (8 * s + 1) (F u 39) = v2
  rw [e v2 75 (by rw [← g2, ← g1]; rfl), e v2 46 (by rw [← g2, ← g1]; rfl), h75, l2, I_add, tn 2 (by omega)]
  refine k_in (k := 74) (n := 400) rfl (by decide) (by omega) ?_
  rw [wa_e]
  generalize g3 : wa v2 74 (8 * s + 2) (F u 46) = v3
  rw [e v3 75 (by rw [← g3, ← g2, ← g1]; rfl), e v3 56 (by rw [← g3, ← g2, ← g1]; rfl), h75, l3, I_add, tn 3 (by omega)]
  refine k_in (k := 74) (n := 400) rfl (by decide) (by omega) ?_
  rw [wa_e]
  generalize g4 : wa v3 74 (8 * s + 3) (F u 56) = v4
  rw [e v4 75 (by rw [← g4, ← g3, ← g2, ← g1]; rfl), e v4 58 (by rw [← g4, ← g3, ← g2, ← g1]; rfl), h75, l4, I_add, tn 4 (by omega)]
  refine k_in (k := 74) (n := 400) rfl (by decide) (by omega) ?_
  rw [wa_e]
  generalize g5 : wa v4 74 (8 * s + 4) (F u 58) = v5
  rw [e v5 75 (by rw [← g5, ← g4, ← g3, ← g2, ← g1]; rfl), e v5 71 (by rw [← g5, ← g4, ← g3, ← g2, ← g1]; rfl), h75, l5, I_add, tn 5 (by omega)]
  refine k_in (k := 74) (n := 400) rfl (by decide) (by omega) ?_
  rw [wa_e]
  generalize g6 : wa v5 74 (8 * s + 5) (F u 71) = v6
  rw [e v6 75 (by rw [← g6, ← g5, ← g4, ← g3, ← g2, ← g1]; rfl), e v6 72 (by rw [← g6, ← g5, ← g4, ← g3, ← g2, ← g1]; rfl), h75, l6, I_add, tn 6 (by omega)]
  refine k_in (k := 74) (n := 400) rfl (by decide) (by omega) ?_
  rw [wa_e]
  generalize g7 : wa v6 74 (8 * s + 6) (F u 72) = v7
  have e7 : v7.1 = u.1 := by rw [← g7, ← g6, ← g5, ← g4, ← g3, ← g2, ← g1]; rfl
  have fr7 : FR [75, 77] [] [74, 76] [] u v7 := by rw [← g7, ← g6, ← g5, ← g4, ← g3, ← g2, ← g1]; exact FR.wa (FR.wa (FR.wa (FR.wa (FR.wa (FR.wa (FR.wa FR.rf (by decide)) (by decide)) (by decide)) (by decide)) (by decide)) (by decide)) (by decide)
  have q : ∀ j, A v7 74 j = if j = 8 * s + 6 then F u 72 else if j = 8 * s + 5 then F u 71 else if j = 8 * s + 4 then F u 58 else if j = 8 * s + 3 then F u 56 else if j = 8 * s + 2 then F u 46 else if j = 8 * s + 1 then F u 39 else if j = 8 * s then F u 32 else A u 74 j := fun j => by
    rw [← g7, A_wa (F_r u 72).1 (F_r u 72).2, if_pos rfl, ← g6, A_wa (F_r u 71).1 (F_r u 71).2, if_pos rfl, ← g5, A_wa (F_r u 58).1 (F_r u 58).2, if_pos rfl, ← g4, A_wa (F_r u 56).1 (F_r u 56).2, if_pos rfl, ← g3, A_wa (F_r u 46).1 (F_r u 46).2, if_pos rfl, ← g2, A_wa (F_r u 39).1 (F_r u 39).2, if_pos rfl, ← g1, A_wa (F_r u 32).1 (F_r u 32).2, if_pos rfl]
  have q76 : ∀ j, A v7 76 j = A u 76 j := fun j => by rw [← g7, ← g6, ← g5, ← g4, ← g3, ← g2, ← g1]; rfl
  clear g1 g2 g3 g4 g5 g6 g7
  rw [e v7 75 e7, h75, l7, I_add, lit0q]
  have fin : ∀ y : Int, y = F u 66 → OK (fun v _ => FR [75, 77] [] [74, 76] [] u v ∧ F v 75 = 8 * (s : Int) + 8 ∧ F v 77 = 54 * (s : Int) + 54 ∧ (∀ j, j < 8 * s → A v 74 j = A u 74 j) ∧ (∀ j, j < 54 * s → A v 76 j = A u 76 j) ∧ SVD σ s u v) (fb_M_save_127 N (gg_M_save N N) v7 74 (I (8 * (s : Int) + (7 : Nat))) (I y)) := fun y hy => by
    unfold fb_M_save_127
    rw [show isK 74 4 = true by decide, ck_t]
    refine k_in (k := 74) (n := 400) rfl (by decide) (by omega) ?_
    simp only [lt_e]
    rw [tn 7 (by omega), wa_e]
    have fr8 : FR [75, 77] [] [74, 76] [] u (wa v7 74 (8 * s + 7) y) := FR.wa fr7 (by decide)
    have ry : RG y := by rw [hy]; exact FRG1 u 66
    have q8 : ∀ j, A (wa v7 74 (8 * s + 7) y) 74 j = if j = 8 * s + 7 then y else A v7 74 j := fun j => by rw [A_wa ry.1 ry.2, if_pos rfl]
    have q9 : ∀ j, A (wa v7 74 (8 * s + 7) y) 76 j = A u 76 j := fun j => by rw [wa_rne (by decide)]; exact q76 j
    have f8 : ∀ k, F (wa v7 74 (8 * s + 7) y) k = F u k := fun k => by show (v7.1 k).toInt = _; rw [e7]; rfl
    generalize wa v7 74 (8 * s + 7) y = v8 at *
    rw [I_F' (show F v8 75 = 8 * (s : Int) from (f8 75).trans h75), show (8 : Int32) = I 8 from rfl, I_add, wi_e, lit0q]
    refine ok_mono (save_loop hσ hs N 0 (wi v8 75 (8 * (s : Int) + 8)) ?_ ?_ (by omega) (by omega) (fun t h1 => absurd h1 (Nat.not_lt_zero _))) (fun w _ hw => ?_)
    · rw [wi_ne (by decide), f8]; exact h65
    · rw [wi_ne (by decide), f8]; exact h77
    · obtain ⟨w1, k1, k2, k3, rfl⟩ := hw
      have r74 : ∀ j, A (wi w1 77 (54 * (s : Int) + 54)) 74 j = if j = 8 * s + 7 then y else A v7 74 j := fun j => by
        rw [A_wi, k1.A (by decide), A_wi]; exact q8 j
      refine ⟨FR.wi (FR.tr (FR.wi fr8 (by decide)) (FR.mo k1 (by decide) (by decide) (by decide) (by decide))) (by decide), ?_, wi_eq ⟨by omega, by omega⟩, fun j hj => ?_, fun j hj => ?_, ⟨?_, ?_, ?_, ?_, ?_, ?_, ?_, ?_⟩, fun t ht => ?_⟩
      · rw [wi_ne (by decide), k1.F (by decide)]; exact wi_eq ⟨by omega, by omega⟩
      · rw [r74, if_neg (by omega), q, if_neg (by omega), if_neg (by omega), if_neg (by omega), if_neg (by omega), if_neg (by omega), if_neg (by omega), if_neg (by omega)]
      · rw [A_wi, k2 j hj, A_wi]; exact q9 j
      · rw [r74, if_neg (by omega), q, if_neg (by omega), if_neg (by omega), if_neg (by omega), if_neg (by omega), if_neg (by omega), if_neg (by omega), if_pos rfl]
      · rw [r74, if_neg (by omega), q, if_neg (by omega), if_neg (by omega), if_neg (by omega), if_neg (by omega), if_neg (by omega), if_pos rfl]
      · rw [r74, if_neg (by omega), q, if_neg (by omega), if_neg (by omega), if_neg (by omega), if_neg (by omega), if_pos rfl]
      · rw [r74, if_neg (by omega), q, if_neg (by omega), if_neg (by omega), if_neg (by omega), if_pos rfl]
      · rw [r74, if_neg (by omega), q, if_neg (by omega), if_neg (by omega), if_pos rfl]
      · rw [r74, if_neg (by omega), q, if_neg (by omega), if_pos rfl]
      · rw [r74, if_neg (by omega), q, if_pos rfl]
      · rw [r74, if_pos rfl]; exact hy
      · have := k3 t ht
        rw [A_wi, A_wi]
        rw [A_wi, A_wi] at this
        have b1 : A v8 60 t = A u 60 t := fr8.A (by decide)
        have b2 : A v8 63 t = A u 63 t := fr8.A (by decide)
        rw [b1, b2] at this
        exact this
  rw [e v7 66 e7]
  refine k_eq (FRG1 u 66) ⟨by decide, by decide⟩ (fun z => fin 0 z.symm) (fun z => fin 1 (by omega))
theorem forget_e (h75 : F u 75 = 8 * (s : Int) + 8) (h77 : F u 77 = 54 * (s : Int) + 54) : fm_M_forgetSaved N u = some (wi (wi u 75 (8 * (s : Int))) 77 (54 * (s : Int)), ()) := by
  unfold fm_M_forgetSaved fb_M_forgetSaved_0
  simp only [lt_e]
  rw [I_F' h75, show (8 : Int32) = I 8 from rfl, I_sub, show 8 * (s : Int) + 8 - 8 = 8 * (s : Int) from by omega, wi_e, I_F' (show F (wi u 75 (8 * (s : Int))) 77 = 54 * (s : Int) + 54 from (wi_ne (by decide)).trans h77), show (54 : Int32) = I 54 from rfl, I_sub, show 54 * (s : Int) + 54 - 54 = 54 * (s : Int) from by omega, wi_e]
theorem forget_F {TN : Nat} {d : Int} (hs : FSM u0 TN σ d u) : OK (fun v _ => FSM u0 TN σ d v ∧ v.2.2.1 = u.2.2.1 ∧ F v 32 = F u 32) (fm_M_forgetSaved N u) := by
  unfold fm_M_forgetSaved fb_M_forgetSaved_0
  refine ok_lt.mpr (ok_lt.mpr (ok_some.mpr ?_))
  rw [I_of (u.1 75 - 8), wi_e, I_of ((wi u 75 _).1 77 - 54), wi_e]
  exact ⟨FSM_wi (FSM_wi hs (by decide)) (by decide), rfl, by rw [wi_ne (by decide), wi_ne (by decide)]⟩
end
