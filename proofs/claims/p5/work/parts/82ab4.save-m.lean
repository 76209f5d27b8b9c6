section
def SVD (σ s : Nat) (u v : MS) : Prop := (A v 74 (8 * s) = F u 32 ∧ A v 74 (8 * s + 1) = F u 39 ∧ A v 74 (8 * s + 2) = F u 46 ∧ A v 74 (8 * s + 3) = F u 56 ∧ A v 74 (8 * s + 4) = F u 58 ∧ A v 74 (8 * s + 5) = F u 71 ∧ A v 74 (8 * s + 6) = F u 72 ∧ A v 74 (8 * s + 7) = F u 66) ∧ ∀ t, t ≤ σ → A v 76 (54 * s + 2 * t) = A u 60 t ∧ A v 76 (54 * s + 2 * t + 1) = A u 63 t
section
variable {α : Type} {Q : MS → α → Prop} {u0 u v w x : MS} {N σ s TN SN : Nat} {p o n q c f h wt g p2 o2 n2 q2 c2 f2 h2 w2 y : Int}
theorem SVD_kp (h : SVD σ s u v) (k : KPR σ v w) (h75 : F v 75 = 8 * (s : Int) + 8) (h77 : F v 77 = 54 * (s : Int) + 54) (hσ : σ ≤ 26) : SVD σ s u w := by
  obtain ⟨⟨a0, a1, a2, a3, a4, a5, a6, a7⟩, b⟩ := h
  obtain ⟨-, -, -, ⟨k1, k2, -⟩, -⟩ := k
  refine ⟨⟨?_, ?_, ?_, ?_, ?_, ?_, ?_, ?_⟩, fun t ht => ⟨?_, ?_⟩⟩
  · rw [k1 _ (by omega)]; exact a0
  · rw [k1 _ (by omega)]; exact a1
  · rw [k1 _ (by omega)]; exact a2
  · rw [k1 _ (by omega)]; exact a3
  · rw [k1 _ (by omega)]; exact a4
  · rw [k1 _ (by omega)]; exact a5
  · rw [k1 _ (by omega)]; exact a6
  · rw [k1 _ (by omega)]; exact a7
  · rw [k2 _ (by omega)]; exact (b t ht).1
  · rw [k2 _ (by omega)]; exact (b t ht).2
theorem save_loop (hσ : σ ≤ 26) (hs : s ≤ 26) : ∀ (m i : Nat) (v : MS), F v 65 = σ → F v 77 = 54 * (s : Int) → i ≤ σ + 1 → σ + 1 - i < m → (∀ t, t < i → A v 76 (54 * s + 2 * t) = A v 60 t ∧ A v 76 (54 * s + 2 * t + 1) = A v 63 t) → OK (fun w _ => ∃ w1, FR [] [] [76] [] v w1 ∧ (∀ j, j < 54 * s → A w1 76 j = A v 76 j) ∧ (∀ t, t ≤ σ → A w1 76 (54 * s + 2 * t) = A v 60 t ∧ A w1 76 (54 * s + 2 * t + 1) = A v 63 t) ∧ w = wi w1 77 (54 * (s : Int) + 54)) (gg_M_save N m v (I (i : Int))) := by
  intro m
  induction m with
  | zero => intro i v _ _ _ z; exact absurd z (Nat.not_lt_zero _)
  | succ m ih =>
    intro i v h65 h77 hi hm ht
    show OK _ (fb_M_save_141 N (gg_M_save N m) v (I (i : Int)))
    unfold fb_M_save_141
    simp only [lt_e]
    rw [I_F' h65]
    refine k_lt ⟨by omega, by omega⟩ ⟨by omega, by omega⟩ (fun e => ?_) (fun e => ?_)
    · rw [I_F' h77, show (54 : Int32) = I 54 from rfl, I_add, wi_e]
      exact ok_some.mpr ⟨v, FR.rf, fun _ _ => rfl, fun t h1 => ht t (by omega), rfl⟩
    · have ts : (I (i : Int)).toNatClampNeg = i := by rw [I_tn (by omega) (by omega)]; omega
      have t1 : (I (54 * (s : Int) + 2 * i)).toNatClampNeg = 54 * s + 2 * i := by rw [I_tn (by omega) (by omega)]; omega
      have t2 : (I (54 * (s : Int) + 2 * i + 1)).toNatClampNeg = 54 * s + 2 * i + 1 := by rw [I_tn (by omega) (by omega)]; omega
      refine k_in (k := 60) (n := 27) rfl (by decide) (by omega) ?_
      rw [I_F' h77, show (2 : Int32) = I 2 from rfl, I_mul, I_add, ts, t1, I_A (w := v) (k := 60)]
      refine k_in (k := 76) (n := 3240) rfl (by decide) (by omega) ?_
      rw [wa_e]
      refine k_in (k := 63) (n := 27) rfl (by decide) (by omega) ?_
      rw [I_F' (show F (wa v 76 (54 * s + 2 * i) (A v 60 i)) 77 = 54 * (s : Int) from h77), I_add, lit1q, I_add, t2, I_A (w := wa v 76 (54 * s + 2 * i) (A v 60 i)) (k := 63), wa_rne (by decide)]
      refine k_in (k := 76) (n := 3240) rfl (by decide) (by omega) ?_
      rw [wa_e, I_add, show (i : Int) + 1 = ((i + 1 : Nat) : Int) from by omega]
      have y76 : ∀ j, A (wa (wa v 76 (54 * s + 2 * i) (A v 60 i)) 76 (54 * s + 2 * i + 1) (A v 63 i)) 76 j = if j = 54 * s + 2 * i + 1 then A v 63 i else if j = 54 * s + 2 * i then A v 60 i else A v 76 j := fun j => by
        rw [A_wa (A_r v 63 i).1 (A_r v 63 i).2, if_pos rfl, A_wa (A_r v 60 i).1 (A_r v 60 i).2, if_pos rfl]
      have fr : FR [] [] [76] [] v (wa (wa v 76 (54 * s + 2 * i) (A v 60 i)) 76 (54 * s + 2 * i + 1) (A v 63 i)) := FR.wa (FR.wa FR.rf (by decide)) (by decide)
      generalize wa (wa v 76 (54 * s + 2 * i) (A v 60 i)) 76 (54 * s + 2 * i + 1) (A v 63 i) = v2 at *
      refine ok_mono (ih (i + 1) v2 (by rw [fr.F (by decide)]; exact h65) (by rw [fr.F (by decide)]; exact h77) (by omega) (by omega) (fun t h1 => ?_)) (fun w _ hw => ?_)
      · rw [y76, y76, fr.A (by decide), fr.A (by decide)]
        by_cases z : t = i
        · rw [if_neg (by omega), if_pos (by omega), if_pos (by omega), z]; exact ⟨rfl, rfl⟩
        · rw [if_neg (by omega), if_neg (by omega), if_neg (by omega), if_neg (by omega)]; exact ht t (by omega)
      · obtain ⟨w1, f1, f2, f3, f4⟩ := hw
        refine ⟨w1, FR.tr fr f1, fun j hj => ?_, fun t h1 => ?_, f4⟩
        · rw [f2 j hj, y76, if_neg (by omega), if_neg (by omega)]
        · have := f3 t h1
          rw [fr.A (by decide), fr.A (by decide)] at this
          exact this
theorem save_ok (hN : 5000 ≤ N) (hσ : σ ≤ 26) (hs : s ≤ 26) (h65 : F u 65 = σ) (h75 : F u 75 = 8 * (s : Int)) (h77 : F u 77 = 54 * (s : Int)) (h66 : F u 66 = 0 ∨ F u 66 = 1) : OK (fun v _ => FR [75, 77] [] [74, 76] [] u v ∧ F v 75 = 8 * (s : Int) + 8 ∧ F v 77 = 54 * (s : Int) + 54 ∧ (∀ j, j < 8 * s → A v 74 j = A u 74 j) ∧ (∀ j, j < 54 * s → A v 76 j = A u 76 j) ∧ SVD σ s u v) (fm_M_save N u) := by
  unfold fm_M_save fb_M_save_0
  simp only [lt_e]
  have e : ∀ (v : MS) (k : Nat), v.1 = u.1 → v.1 k = I (F u k) := fun v k h => by rw [h]; exact I_F
  have tn : ∀ j : Nat, j ≤ 7 → (I (8 * (s : Int) + j)).toNatClampNeg = 8 * s + j := fun j hj => by rw [I_tn (by omega) (by omega)]; omega
  have tn0 : (I (8 * (s : Int))).toNatClampNeg = 8 * s := by rw [I_tn (by omega) (by omega)]; omega
  have l : (1 : Int32) = I ((1 : Nat) : Int) ∧ (2 : Int32) = I ((2 : Nat) : Int) ∧ (3 : Int32) = I ((3 : Nat) : Int) ∧ (4 : Int32) = I ((4 : Nat) : Int) ∧ (5 : Int32) = I ((5 : Nat) : Int) ∧ (6 : Int32) = I ((6 : Nat) : Int) ∧ (7 : Int32) = I ((7 : Nat) : Int) := ⟨rfl, rfl, rfl, rfl, rfl, rfl, rfl⟩
  obtain ⟨l1, l2, l3, l4, l5, l6, l7⟩ := l
  rw [I_F' h75, tn0, I_F (w := u) (k := 32)]
  refine k_in (k := 74) (n := 400) rfl (by decide) (by omega) ?_
  rw [wa_e]
  generalize g1 : wa u 74 (8 * s) (F u 32) = v1
  rw [e v1 75 (by rw [← g1]; rfl), e v1 39 (by rw [← g1]; rfl), h75, l1, I_add, tn 1 (by omega)]
  refine k_in (k := 74) (n := 400) rfl (by decide) (by omega) ?_
  rw [wa_e]
  generalize g2 : wa v1 74 (8 * s + 1) (F u 39) = v2
  rw [e v2 75 (by rw [← g2, ← g1]; rfl), e v2 46 (by rw [← g2, ← g1]; rfl), h75, l2, I_add, tn 2 (by omega)]
  refine k_in (k := 74) (n := 400) rfl (by decide) (by omega) ?_
  rw [wa_e]
  generalize g3 : wa v2 74 (8 * s + 2) (F u 46) = v3
  rw [e v3 75 (by rw [← g3, ← g2, ← g1]; rfl), e v3 56 (by rw [← g3, ← g2, ← g1]; rfl), h75, l3, I_add, tn 3 (by omega)]
  refine k_in (k := 74) (n := 400) rfl (by decide) (by omega) ?_
  rw [wa_e]
  generalize g4 : wa v3 74 (8 * s + 3) (F u 56) = v4
  rw [e v4 75 (by rw [← g4, ← g3, ← g2, ← g1]; rfl), e v4 58 (by rw [← g4, ← g3, ← g2, ← g1]; rfl), h75, l4, I_add, tn 4 (by omega)]
  refine k_in (k := 74) (n := 400) rfl (by decide) (by omega) ?_
  rw [wa_e]
  generalize g5 : wa v4 74 (8 * s + 4) (F u 58) = v5
  rw [e v5 75 (by rw [← g5, ← g4, ← g3, ← g2, ← g1]; rfl), e v5 71 (by rw [← g5, ← g4, ← g3, ← g2, ← g1]; rfl), h75, l5, I_add, tn 5 (by omega)]
  refine k_in (k := 74) (n := 400) rfl (by decide) (by omega) ?_
  rw [wa_e]
  generalize g6 : wa v5 74 (8 * s + 5) (F u 71) = v6
  rw [e v6 75 (by rw [← g6, ← g5, ← g4, ← g3, ← g2, ← g1]; rfl), e v6 72 (by rw [← g6, ← g5, ← g4, ← g3, ← g2, ← g1]; rfl), h75, l6, I_add, tn 6 (by omega)]
  refine k_in (k := 74) (n := 400) rfl (by decide) (by omega) ?_
  rw [wa_e]
  generalize g7 : wa v6 74 (8 * s + 6) (F u 72) = v7
  have e7 : v7.1 = u.1 := by rw [← g7, ← g6, ← g5, ← g4, ← g3, ← g2, ← g1]; rfl
  have fr7 : FR [75, 77] [] [74, 76] [] u v7 := by rw [← g7, ← g6, ← g5, ← g4, ← g3, ← g2, ← g1]; exact FR.wa (FR.wa (FR.wa (FR.wa (FR.wa (FR.wa (FR.wa FR.rf (by decide)) (by decide)) (by decide)) (by decide)) (by decide)) (by decide)) (by decide)
  have q : ∀ j, A v7 74 j = if j = 8 * s + 6 then F u 72 else if j = 8 * s + 5 then F u 71 else if j = 8 * s + 4 then F u 58 else if j = 8 * s + 3 then F u 56 else if j = 8 * s + 2 then F u 46 else if j = 8 * s + 1 then F u 39 else if j = 8 * s then F u 32 else A u 74 j := fun j => by
    rw [← g7, A_wa (F_r u 72).1 (F_r u 72).2, if_pos rfl, ← g6, A_wa (F_r u 71).1 (F_r u 71).2, if_pos rfl, ← g5, A_wa (F_r u 58).1 (F_r u 58).2, if_pos rfl, ← g4, A_wa (F_r u 56).1 (F_r u 56).2, if_pos rfl, ← g3, A_wa (F_r u 46).1 (F_r u 46).2, if_pos rfl, ← g2, A_wa (F_r u 39).1 (F_r u 39).2, if_pos rfl, ← g1, A_wa (F_r u 32).1 (F_r u 32).2, if_pos rfl]
  have q76 : ∀ j, A v7 76 j = A u 76 j := fun j => by rw [← g7, ← g6, ← g5, ← g4, ← g3, ← g2, ← g1]; rfl
  clear g1 g2 g3 g4 g5 g6 g7
  rw [e v7 75 e7, h75, l7, I_add, lit0q]
  have fin : ∀ y : Int, y = F u 66 → OK (fun v _ => FR [75, 77] [] [74, 76] [] u v ∧ F v 75 = 8 * (s : Int) + 8 ∧ F v 77 = 54 * (s : Int) + 54 ∧ (∀ j, j < 8 * s → A v 74 j = A u 74 j) ∧ (∀ j, j < 54 * s → A v 76 j = A u 76 j) ∧ SVD σ s u v) (fb_M_save_127 N (gg_M_save N N) v7 74 (I (8 * (s : Int) + (7 : Nat))) (I y)) := fun y hy => by
    unfold fb_M_save_127
    rw [show isK 74 4 = true by decide, ck_t]
    refine k_in (k := 74) (n := 400) rfl (by decide) (by omega) ?_
    simp only [lt_e]
    rw [tn 7 (by omega), wa_e]
    have fr8 : FR [75, 77] [] [74, 76] [] u (wa v7 74 (8 * s + 7) y) := FR.wa fr7 (by decide)
    have ry : RG y := by rw [hy]; exact FRG1 u 66
    have q8 : ∀ j, A (wa v7 74 (8 * s + 7) y) 74 j = if j = 8 * s + 7 then y else A v7 74 j := fun j => by rw [A_wa ry.1 ry.2, if_pos rfl]
    have q9 : ∀ j, A (wa v7 74 (8 * s + 7) y) 76 j = A u 76 j := fun j => by rw [wa_rne (by decide)]; exact q76 j
    have f8 : ∀ k, F (wa v7 74 (8 * s + 7) y) k = F u k := fun k => by show (v7.1 k).toInt = _; rw [e7]; rfl
    generalize wa v7 74 (8 * s + 7) y = v8 at *
    rw [I_F' (show F v8 75 = 8 * (s : Int) from (f8 75).trans h75), show (8 : Int32) = I 8 from rfl, I_add, wi_e, lit0q]
    refine ok_mono (save_loop hσ hs N 0 (wi v8 75 (8 * (s : Int) + 8)) ?_ ?_ (by omega) (by omega) (fun t h1 => absurd h1 (Nat.not_lt_zero _))) (fun w _ hw => ?_)
    · rw [wi_ne (by decide), f8]; exact h65
    · rw [wi_ne (by decide), f8]; exact h77
    · obtain ⟨w1, k1, k2, k3, rfl⟩ := hw
      have r74 : ∀ j, A (wi w1 77 (54 * (s : Int) + 54)) 74 j = if j = 8 * s + 7 then y else A v7 74 j := fun j => by
        rw [A_wi, k1.A (by decide), A_wi]; exact q8 j
      refine ⟨FR.wi (FR.tr (FR.wi fr8 (by decide)) (FR.mo k1 (by decide) (by decide) (by decide) (by decide))) (by decide), ?_, wi_eq ⟨by omega, by omega⟩, fun j hj => ?_, fun j hj => ?_, ⟨?_, ?_, ?_, ?_, ?_, ?_, ?_, ?_⟩, fun t ht => ?_⟩
      · rw [wi_ne (by decide), k1.F (by decide)]; exact wi_eq ⟨by omega, by omega⟩
      · rw [r74, if_neg (by omega), q, if_neg (by omega), if_neg (by omega), if_neg (by omega), if_neg (by omega), if_neg (by omega), if_neg (by omega), if_neg (by omega)]
      · rw [A_wi, k2 j hj, A_wi]; exact q9 j
      · rw [r74, if_neg (by omega), q, if_neg (by omega), if_neg (by omega), if_neg (by omega), if_neg (by omega), if_neg (by omega), if_neg (by omega), if_pos rfl]
      · rw [r74, if_neg (by omega), q, if_neg (by omega), if_neg (by omega), if_neg (by omega), if_neg (by omega), if_neg (by omega), if_pos rfl]
      · rw [r74, if_neg (by omega), q, if_neg (by omega), if_neg (by omega), if_neg (by omega), if_neg (by omega), if_pos rfl]
      · rw [r74, if_neg (by omega), q, if_neg (by omega), if_neg (by omega), if_neg (by omega), if_pos rfl]
      · rw [r74, if_neg (by omega), q, if_neg (by omega), if_neg (by omega), if_pos rfl]
      · rw [r74, if_neg (by omega), q, if_neg (by omega), if_pos rfl]
      · rw [r74, if_neg (by omega), q, if_pos rfl]
      · rw [r74, if_pos rfl]; exact hy
      · have := k3 t ht
        rw [A_wi, A_wi]
        rw [A_wi, A_wi] at this
        have b1 : A v8 60 t = A u 60 t := fr8.A (by decide)
        have b2 : A v8 63 t = A u 63 t := fr8.A (by decide)
        rw [b1, b2] at this
        exact this
  rw [e v7 66 e7]
  refine k_eq (FRG1 u 66) ⟨by decide, by decide⟩ (fun z => fin 0 z.symm) (fun z => fin 1 (by omega))
theorem forget_e (h75 : F u 75 = 8 * (s : Int) + 8) (h77 : F u 77 = 54 * (s : Int) + 54) : fm_M_forgetSaved N u = some (wi (wi u 75 (8 * (s : Int))) 77 (54 * (s : Int)), ()) := by
  unfold fm_M_forgetSaved fb_M_forgetSaved_0
  simp only [lt_e]
  rw [I_F' h75, show (8 : Int32) = I 8 from rfl, I_sub, show 8 * (s : Int) + 8 - 8 = 8 * (s : Int) from by omega, wi_e, I_F' (show F (wi u 75 (8 * (s : Int))) 77 = 54 * (s : Int) + 54 from (wi_ne (by decide)).trans h77), show (54 : Int32) = I 54 from rfl, I_sub, show 54 * (s : Int) + 54 - 54 = 54 * (s : Int) from by omega, wi_e]
theorem forget_F {TN : Nat} {d : Int} (hs : FSM u0 TN σ d u) : OK (fun v _ => FSM u0 TN σ d v ∧ v.2.2.1 = u.2.2.1 ∧ F v 32 = F u 32) (fm_M_forgetSaved N u) := by
  unfold fm_M_forgetSaved fb_M_forgetSaved_0
  refine ok_lt.mpr (ok_lt.mpr (ok_some.mpr ?_))
  rw [I_of (u.1 75 - 8), wi_e, I_of ((wi u 75 _).1 77 - 54), wi_e]
  exact ⟨FSM_wi (FSM_wi hs (by decide)) (by decide), rfl, by rw [wi_ne (by decide), wi_ne (by decide)]⟩
end
end
section
section
variable {u0 u v w x : MS} {N σ s TN SN : Nat} {p o n q c f h wt g p2 o2 n2 q2 c2 f2 h2 w2 y : Int} {a6 a3 : Nat → Int}
theorem tback_loop (hσ : σ ≤ 26) (hs : s ≤ 26) : ∀ (m i : Nat) (v : MS), F v 65 = σ → F v 77 = 54 * (s : Int) + 54 → i ≤ σ + 1 → σ + 1 - i < m → (∀ t, t < i → A v 60 t = a6 t ∧ A v 63 t = a3 t) → (∀ t, t ≤ σ → A v 76 (54 * s + 2 * t) = a6 t ∧ A v 76 (54 * s + 2 * t + 1) = a3 t) → OK (fun x _ => FR [] [] [60, 63] [] v x ∧ ∀ t, t ≤ σ → A x 60 t = a6 t ∧ A x 63 t = a3 t) (gg_M_takeBack N m v (I (i : Int))) := by
  intro m
  induction m with
  | zero => intro i v _ _ _ z; exact absurd z (Nat.not_lt_zero _)
  | succ m ih =>
    intro i v h65 h77 hi hm ht hv
    show OK _ (fb_M_takeBack_115 N (gg_M_takeBack N m) v (I (i : Int)))
    unfold fb_M_takeBack_115
    simp only [lt_e]
    rw [I_F' h65]
    refine k_lt ⟨by omega, by omega⟩ ⟨by omega, by omega⟩ (fun e => ok_some.mpr ⟨FR.rf, fun t h1 => ht t (by omega)⟩) (fun e => ?_)
    have ts : (I (i : Int)).toNatClampNeg = i := by rw [I_tn (by omega) (by omega)]; omega
    have t1 : (I (54 * (s : Int) + 54 - 54 + 2 * i)).toNatClampNeg = 54 * s + 2 * i := by rw [I_tn (by omega) (by omega)]; omega
    have t2 : (I (54 * (s : Int) + 54 - 54 + 2 * i + 1)).toNatClampNeg = 54 * s + 2 * i + 1 := by rw [I_tn (by omega) (by omega)]; omega
    obtain ⟨v1, v2⟩ := hv i (by omega)
    rw [I_F' h77, show (54 : Int32) = I 54 from rfl, I_sub, show (2 : Int32) = I 2 from rfl, I_mul, I_add, t1, ts, I_A' v1]
    refine k_in (k := 76) (n := 3240) rfl (by decide) (by omega) (k_in (k := 60) (n := 27) rfl (by decide) (by omega) ?_)
    rw [wa_e, I_F' (show F (wa v 60 i (a6 i)) 77 = 54 * (s : Int) + 54 from h77), I_sub, I_add, lit1q, I_add, t2, I_A' (show A (wa v 60 i (a6 i)) 76 (54 * s + 2 * i + 1) = a3 i from v2)]
    refine k_in (k := 76) (n := 3240) rfl (by decide) (by omega) (k_in (k := 63) (n := 27) rfl (by decide) (by omega) ?_)
    rw [wa_e, I_add, show (i : Int) + 1 = ((i + 1 : Nat) : Int) from by omega]
    have r6 : RG (a6 i) := by rw [← v1]; exact ARG1 v 76 _
    have r3 : RG (a3 i) := by rw [← v2]; exact ARG1 v 76 _
    have y60 : ∀ j, A (wa (wa v 60 i (a6 i)) 63 i (a3 i)) 60 j = if j = i then a6 i else A v 60 j := fun j => by rw [wa_rne (by decide), A_wa r6.1 r6.2, if_pos rfl]
    have y63 : ∀ j, A (wa (wa v 60 i (a6 i)) 63 i (a3 i)) 63 j = if j = i then a3 i else A v 63 j := fun j => by rw [A_wa r3.1 r3.2, if_pos rfl, wa_rne (by decide)]
    have fr : FR [] [] [60, 63] [] v (wa (wa v 60 i (a6 i)) 63 i (a3 i)) := FR.wa (FR.wa FR.rf (by decide)) (by decide)
    generalize wa (wa v 60 i (a6 i)) 63 i (a3 i) = v3 at *
    refine ok_mono (ih (i + 1) v3 (by rw [fr.F (by decide)]; exact h65) (by rw [fr.F (by decide)]; exact h77) (by omega) (by omega) (fun t h1 => ?_) (fun t h1 => by rw [fr.A (by decide), fr.A (by decide)]; exact hv t h1)) (fun x _ hx => ⟨FR.tr fr hx.1, hx.2⟩)
    rw [y60, y63]
    by_cases z : t = i
    · rw [if_pos z, if_pos z, z]; exact ⟨rfl, rfl⟩
    · rw [if_neg z, if_neg z]; exact ht t (by omega)
def TBF (σ : Nat) (u w x : MS) : Prop := FR [32, 39, 46, 56, 58, 66, 71, 72] [] [60, 63] [] w x ∧ (F x 32 = F u 32 ∧ F x 39 = F u 39 ∧ F x 46 = F u 46 ∧ F x 56 = F u 56 ∧ F x 58 = F u 58 ∧ F x 71 = F u 71 ∧ F x 72 = F u 72 ∧ F x 66 = F u 66) ∧ ∀ t, t ≤ σ → A x 60 t = A u 60 t ∧ A x 63 t = A u 63 t
theorem tback_0 (hN : 5000 ≤ N) (hσ : σ ≤ 26) (hs : s ≤ 26) (h65 : F w 65 = σ) (h75 : F w 75 = 8 * (s : Int) + 8) (h77 : F w 77 = 54 * (s : Int) + 54) (sv : SVD σ s u w) (h66 : F u 66 = 0 ∨ F u 66 = 1) : OK (fun x _ => TBF σ u w x) (fm_M_takeBack N w) := by
  obtain ⟨⟨a0, a1, a2, a3, a4, a5, a6, a7⟩, b⟩ := sv
  unfold fm_M_takeBack fb_M_takeBack_0
  simp only [lt_e]
  have tn : ∀ j : Nat, j ≤ 7 → (I (8 * (s : Int) + j)).toNatClampNeg = 8 * s + j := fun j hj => by rw [I_tn (by omega) (by omega)]; omega
  have tn0 : (I (8 * (s : Int))).toNatClampNeg = 8 * s := by rw [I_tn (by omega) (by omega)]; omega
  have l : (1 : Int32) = I ((1 : Nat) : Int) ∧ (2 : Int32) = I ((2 : Nat) : Int) ∧ (3 : Int32) = I ((3 : Nat) : Int) ∧ (4 : Int32) = I ((4 : Nat) : Int) ∧ (5 : Int32) = I ((5 : Nat) : Int) ∧ (6 : Int32) = I ((6 : Nat) : Int) ∧ (7 : Int32) = I ((7 : Nat) : Int) := ⟨rfl, rfl, rfl, rfl, rfl, rfl, rfl⟩
  obtain ⟨l1, l2, l3, l4, l5, l6, l7⟩ := l
  have ib : ∀ j : Nat, j ≤ 7 → inb (I (8 * (s : Int) + j)) (ln 74) = true := fun j hj => inb_at (k := 74) (n := 400) rfl (by omega) (by omega) (by decide)
  have ib0 : inb (I (8 * (s : Int))) (ln 74) = true := inb_at (k := 74) (n := 400) rfl (by omega) (by omega) (by decide)
  have rd : ∀ (v : MS) (j : Nat) (y : Int), v.2.2.1 = w.2.2.1 → A w 74 j = y → v.2.2.1 74 j = I y := fun v j y h1 h2 => by rw [h1]; exact I_A' h2
  rw [I_F' h75, show (8 : Int32) = I 8 from rfl, I_sub, show 8 * (s : Int) + 8 - 8 = 8 * (s : Int) from by omega, l2, l3, l4, l5, l6, l7]
  rw [show (1 : Int32) = I ((1 : Nat) : Int) from rfl]
  simp only [I_add]
  rw [ib0, ck_t, tn0, rd w (8 * s) _ rfl a0, wi_e, ib 1 (by omega), ck_t, tn 1 (by omega), ib 2 (by omega), tn 2 (by omega), ib 3 (by omega), tn 3 (by omega), ib 4 (by omega), tn 4 (by omega), ib 5 (by omega), tn 5 (by omega), ib 6 (by omega), tn 6 (by omega), ib 7 (by omega), tn 7 (by omega)]
  rw [rd (wi w 32 (F u 32)) _ _ rfl a1, wi_e, ck_t]
  rw [rd (wi (wi w 32 (F u 32)) 39 (F u 39)) _ _ rfl a2, wi_e, ck_t]
  generalize g3 : wi (wi (wi w 32 (F u 32)) 39 (F u 39)) 46 (F u 46) = v3
  have e3 : v3.2.2.1 = w.2.2.1 := by rw [← g3]; rfl
  rw [rd v3 _ _ e3 a3, wi_e, ck_t]
  generalize g4 : wi v3 56 (F u 56) = v4
  have e4 : v4.2.2.1 = w.2.2.1 := by rw [← g4]; exact e3
  rw [rd v4 _ _ e4 a4, wi_e, ck_t]
  generalize g5 : wi v4 58 (F u 58) = v5
  have e5 : v5.2.2.1 = w.2.2.1 := by rw [← g5]; exact e4
  rw [rd v5 _ _ e5 a5, wi_e, ck_t]
  generalize g6 : wi v5 71 (F u 71) = v6
  have e6 : v6.2.2.1 = w.2.2.1 := by rw [← g6]; exact e5
  rw [rd v6 _ _ e6 a6, wi_e, ck_t]
  generalize g7 : wi v6 72 (F u 72) = v7
  have e7 : v7.2.2.1 = w.2.2.1 := by rw [← g7]; exact e6
  have fr7 : FR [32, 39, 46, 56, 58, 66, 71, 72] [] [60, 63] [] w v7 := by rw [← g7, ← g6, ← g5, ← g4, ← g3]; exact FR.wi (FR.wi (FR.wi (FR.wi (FR.wi (FR.wi (FR.wi FR.rf (by decide)) (by decide)) (by decide)) (by decide)) (by decide)) (by decide)) (by decide)
  have f7 : F v7 32 = F u 32 ∧ F v7 39 = F u 39 ∧ F v7 46 = F u 46 ∧ F v7 56 = F u 56 ∧ F v7 58 = F u 58 ∧ F v7 71 = F u 71 ∧ F v7 72 = F u 72 := by
    rw [← g7, ← g6, ← g5, ← g4, ← g3]
    refine ⟨?_, ?_, ?_, ?_, ?_, ?_, ?_⟩
    · rw [wi_ne (by decide), wi_ne (by decide), wi_ne (by decide), wi_ne (by decide), wi_ne (by decide), wi_ne (by decide), wi_eq (FRG1 u 32)]
    · rw [wi_ne (by decide), wi_ne (by decide), wi_ne (by decide), wi_ne (by decide), wi_ne (by decide), wi_eq (FRG1 u 39)]
    · rw [wi_ne (by decide), wi_ne (by decide), wi_ne (by decide), wi_ne (by decide), wi_eq (FRG1 u 46)]
    · rw [wi_ne (by decide), wi_ne (by decide), wi_ne (by decide), wi_eq (FRG1 u 56)]
    · rw [wi_ne (by decide), wi_ne (by decide), wi_eq (FRG1 u 58)]
    · rw [wi_ne (by decide), wi_eq (FRG1 u 71)]
    · rw [wi_eq (FRG1 u 72)]
  have fin : ∀ y : Int, y = F u 66 → ∀ t1 : Int32, t1 = I y → OK (fun x _ => TBF σ u w x) (fb_M_takeBack_110 N (gg_M_takeBack N N) v7 t1) := fun y hy t1 ht1 => by
    unfold fb_M_takeBack_110
    rw [ht1]
    refine ok_ck.mpr ⟨?_, ok_lt.mpr ?_⟩
    · rcases h66 with z | z
      · rw [hy, z]; rfl
      · rw [hy, z]; rfl
    rw [wi_e, lit0q]
    have q66 : F (wi v7 66 y) 66 = y := wi_eq (by rw [hy]; exact FRG1 u 66)
    have fr8 : FR [32, 39, 46, 56, 58, 66, 71, 72] [] [60, 63] [] w (wi v7 66 y) := FR.wi fr7 (by decide)
    refine ok_mono (tback_loop (s := s) (a6 := fun t => A u 60 t) (a3 := fun t => A u 63 t) hσ hs N 0 (wi v7 66 y) (by rw [fr8.F (by decide)]; exact h65) (by rw [fr8.F (by decide)]; exact h77) (by omega) (by omega) (fun t h1 => absurd h1 (Nat.not_lt_zero _)) (fun t h1 => by rw [fr8.A (by decide), fr8.A (by decide)]; exact b t h1)) (fun x _ hx => ?_)
    obtain ⟨x1, x2⟩ := hx
    refine ⟨FR.tr fr8 (FR.mo x1 (by decide) (by decide) (by decide) (by decide)), ⟨?_, ?_, ?_, ?_, ?_, ?_, ?_, ?_⟩, x2⟩
    · rw [x1.F (by decide), wi_ne (by decide)]; exact f7.1
    · rw [x1.F (by decide), wi_ne (by decide)]; exact f7.2.1
    · rw [x1.F (by decide), wi_ne (by decide)]; exact f7.2.2.1
    · rw [x1.F (by decide), wi_ne (by decide)]; exact f7.2.2.2.1
    · rw [x1.F (by decide), wi_ne (by decide)]; exact f7.2.2.2.2.1
    · rw [x1.F (by decide), wi_ne (by decide)]; exact f7.2.2.2.2.2.1
    · rw [x1.F (by decide), wi_ne (by decide)]; exact f7.2.2.2.2.2.2
    · rw [x1.F (by decide), q66, hy]
  rw [rd v7 _ _ e7 a7]
  refine k_eq (FRG1 u 66) ⟨by decide, by decide⟩ (fun z => fin 1 z.symm _ rfl) (fun z => fin 0 (by omega) _ rfl)
theorem TBF_KP (a : TBF σ u w x) (kp : KPR σ u w) : KPR σ u x := by
  obtain ⟨t1, ⟨t2, t3, t4, t5, t6, t7, t8, t9⟩, t10⟩ := a
  obtain ⟨a0, ⟨a1, a2, a3, a4, a5⟩, ⟨a6, a7, a8, a9⟩, ⟨a10, a11, a12⟩, ⟨a13, a14, a15, a16, a17, a18, a19, a20⟩, a21, a22⟩ := kp
  have g : ∀ r i, r ∉ [60, 63] → A x r i = A w r i := fun r i hr => t1.A hr
  have m1 : ∀ r, r ∈ [23, 24, 25, 26, 27, 28, 29, 30, 31] → r ∉ [60, 63] := by decide
  have m2 : ∀ r, r ∈ [33, 35, 36, 37, 38] → r ∉ [60, 63] := by decide
  have m3 : ∀ r, r ∈ [40, 41, 42, 43, 45] → r ∉ [60, 63] := by decide
  have m4 : ∀ r, r ∈ [53, 54, 55] → r ∉ [60, 63] := by decide
  have m5 : ∀ r, r ∈ [61, 62] → r ∉ [60, 63] := by decide
  have m6 : ∀ r, r ∈ [79, 80, 81, 82] → r ∉ [60, 63] := by decide
  refine ⟨FR.tr a0 (FRP t1 (by decide) (by decide) (by decide)), ⟨fun r i h1 h2 => by rw [g r i (m1 r h1)]; exact a1 r i h1 h2, fun r i h1 h2 => by rw [g r i (m2 r h1)]; exact a2 r i h1 h2, fun r i h1 h2 => by rw [g r i (m3 r h1)]; exact a3 r i h1 h2, fun r i h1 h2 => by rw [g r i (m4 r h1)]; exact a4 r i h1 h2, fun i h2 => by rw [g 57 i (by decide)]; exact a5 i h2⟩, ⟨fun s i h1 h2 => by rw [g 59 _ (by decide)]; exact a6 s i h1 h2, fun r s i h0 h1 h2 => by rw [g r _ (m5 r h0)]; exact a7 r s i h0 h1 h2, fun s h1 => (t10 s (by omega)).1, fun s h1 => ?_⟩, ⟨fun i h2 => by rw [g 74 i (by decide)]; exact a10 i h2, fun i h2 => by rw [g 76 i (by decide)]; exact a11 i h2, fun r i h1 h2 => by rw [g r i (m6 r h1)]; exact a12 r i h1 h2⟩, ⟨by omega, by omega, by omega, by omega, by omega, ?_, ?_, ?_⟩, fun z => by omega, fun z => by omega⟩
  · rw [(t10 s h1).1, (t10 s h1).2, g 64 s (by decide)]
    exact ⟨Int.le_refl _, Int.le_refl _, (a9 s h1).2.2⟩
  · rw [t1.F (by decide)]; exact a18
  · rw [t1.F (by decide)]; exact a19
  · rw [t1.F (by decide)]; exact a20
theorem TBF_ST {s s2 : Int} (hu : ST u0 σ p o n q c f h s wt g u) (hw : ST u0 σ p2 o2 n2 q2 c2 f2 h2 s2 w2 y w) (kp : KPR σ u w) (a : TBF σ u w x) : ST u0 σ p2 o2 n q c f h s2 w2 y x := by
  obtain ⟨t1, ⟨t2, t3, t4, t5, t6, t7, t8, t9⟩, t10⟩ := a
  obtain ⟨b1, ⟨e1, e2, e3, e4, e5, e6, e7, e8, e9, e10, e11, e12⟩, ⟨b3, b4, b5⟩, b6, b7, b8⟩ := hu
  obtain ⟨d1, ⟨r1, r2, r3, r4, r5, r6, r7, r8, r9, r10, r11, r12⟩, ⟨d3, d4, d5⟩, d6, d7, d8⟩ := hw
  obtain ⟨a0, ⟨a1, a2, a3, a4, a5⟩, ⟨a6, a7, a8, a9⟩, -⟩ := kp
  have g : ∀ r i, r ∉ [60, 63] → A x r i = A w r i := fun r i hr => t1.A hr
  refine ⟨FR.tr d1 (FRP t1 (by decide) (by decide) (by decide)), ⟨?_, ?_, t2.trans e3, t3.trans e4, t4.trans e5, t5.trans e6, t6.trans e7, ?_, ?_, ?_, ?_, ?_⟩, ⟨by omega, d4, by omega⟩, fun s hs => ?_, K44_fr d7 t1 (by decide), fun i hi => ?_⟩
  · rw [t1.F (by decide)]; exact r1
  · rw [t1.F (by decide)]; exact r2
  · rw [t1.F (by decide)]; exact r8
  · rw [t1.F (by decide)]; exact r9
  · rw [t1.F (by decide)]; exact r10
  · rw [t1.F (by decide)]; exact r11
  · rw [t1.F (by decide)]; exact r12
  · obtain ⟨⟨q1, q2, q3, q4⟩, q5, q6, q7⟩ := b6 s hs
    have h9 := a9 s hs
    rw [(t10 s hs).1, (t10 s hs).2, (t10 (s - 1) (by omega)).1, (t10 (s - 1) (by omega)).2, g 64 s (by decide)]
    refine ⟨⟨q1, by omega, q3, q4.1, (d6 s hs).1.2.2.2.2⟩, fun i hi => ?_, q6, fun i hi hs0 => ?_⟩
    · rw [g 59 _ (by decide), a6 s i hs hi]
      refine ⟨(q5 i hi).1, (q5 i hi).2.1, fun j hj => ?_⟩
      rw [g 59 _ (by decide), a6 s j hs (by omega)]
      exact (q5 i hi).2.2 j hj
    · rw [g 62 _ (by decide), a7 62 s i (by decide) hs hi]
      exact q7 i hi hs0
  · rw [t2] at hi
    rw [g 23 i (by decide), g 24 i (by decide), g 25 i (by decide), a1 23 i (by decide) hi, a1 24 i (by decide) hi, a1 25 i (by decide) hi]
    exact b8 i hi
end
end
section
def mks (u : MS) (i : Nat) : Nat := (F u (if i = 0 then 32 else if i = 1 then 46 else if i = 2 then 39 else if i = 3 then 56 else 58)).toNat
def nmo (σ : Nat) (u : MS) : Nat := (A u 60 σ).toNat
def hlo (σ : Nat) (u : MS) : Nat := (A u 63 σ).toNat
def LGS (σ : Nat) (u : MS) : Prop := F u 66 = 0 → A u 60 σ ≤ 40
def gq (g : Int) : Nat := if g = 0 then 0 else 1
def TYG (TN SN σ : Nat) (g lv xb : Int) (u v : MS) (q q2 : Nat) (R : Nat → Prop) : Prop := F v 72 = 0 → F v 66 = 0 → TN ≤ 1500 → ∃ mm X Y : Nat, SEQ v SN (gq g) (mks u) (mks v) q q2 (nmo σ u) (nmo σ v) (nmo σ u) mm X Y (hlo σ v) R ∧ mm ≤ 40 ∧ (mm : Int) ≤ A v 64 σ ∧ 2 * (X : Int) ≤ xb ∧ (Y : Int) + lv ≤ 25
section
variable {u0 u v w x : MS} {N σ TN SN q0 q1 q2 q3 e : Nat} {p o n q c f h s wt g lv xb xb1 xb2 k t : Int} {R R1 R2 : Nat → Prop} {a b : Nat → Nat}
theorem SEQ_kp {g q q2 m m2 lo mm X Y sh : Nat} (s : SEQ v SN g a b q q2 m m2 lo mm X Y sh R) (hb : ∀ i, b i ≤ mks v i) (k : KPR σ v w) : SEQ w SN g a b q q2 m m2 lo mm X Y sh R := by
  obtain ⟨k0, ⟨k1, k2, k3, k4, k5⟩, -⟩ := k
  have b0 : b 0 ≤ (F v 32).toNat := hb 0
  have b1 : b 1 ≤ (F v 46).toNat := hb 1
  have b2 : b 2 ≤ (F v 39).toNat := hb 2
  have b3 : b 3 ≤ (F v 56).toNat := hb 3
  have b4 : b 4 ≤ (F v 58).toNat := hb 4
  have m1 : ∀ r, r ∈ [23, 24, 25, 26, 27, 31] → r ∈ [23, 24, 25, 26, 27, 28, 29, 30, 31] := by decide
  have m2 : ∀ r, r ∈ [28, 29, 30] → r ∈ [23, 24, 25, 26, 27, 28, 29, 30, 31] := by decide
  exact SEQ_st s ⟨k0.F (by decide), fun r i hr _ hi => k1 r i (m1 r hr) (by omega), fun r i hr _ hi => k3 r i hr (by omega), fun r i hr hi => k2 r i hr (by omega), fun r i hr _ hi => k4 r i hr (by omega), fun i hi => k5 i (by omega)⟩ (fun r i hr _ hi _ => k1 r i (m2 r hr) (by omega))
theorem KPR_n (k : KPR σ v w) : nmo σ v ≤ nmo σ w ∧ hlo σ v ≤ hlo σ w ∧ A v 64 σ ≤ A w 64 σ := by
  have := k.2.2.1.2.2.2 σ (Nat.le_refl σ)
  unfold nmo hlo
  omega
theorem TYG_app (a : TYG TN SN σ g lv xb1 u v q0 q1 R1) (k : KPR σ v w) (b : TYG TN SN σ g lv xb2 v w q2 q3 R2) (hq : q1 = q2 + e) (h1 : xb1 ≤ xb) (h2 : xb2 + 2 * e ≤ xb) : TYG TN SN σ g lv xb u w q0 (q3 + e) (fun n => R1 n ∨ R2 n) := by
  intro z1 z2 z3
  obtain ⟨m1, X1, Y1, s1, a1, a2, a3, a4⟩ := a (k.2.2.2.2.2.1 z1) (k.2.2.2.2.2.2 z2) z3
  obtain ⟨m2, X2, Y2, s2, b1, b2, b3, b4⟩ := b z1 z2 z3
  have kn := KPR_n k
  have t1 := SEQ_kp s1 (fun i => Nat.le_refl _) k
  have lo := s1.1.2.2.2.1
  refine ⟨max m1 m2, max X1 (X2 + e), max Y1 Y2, SEQ_app (SEQ_mo t1 (Nat.le_refl _) (Nat.le_max_left _ _) (Nat.le_max_left _ _) (Nat.le_max_left _ _) kn.2.1) (by rw [hq]; exact SEQ_mo (SEQ_up s2 e) lo (Nat.le_max_right _ _) (Nat.le_max_right _ _) (Nat.le_max_right _ _) (Nat.le_refl _)), ?_, ?_, ?_, ?_⟩
  all_goals omega
theorem TYG_mo {lv2 : Int} (a : TYG TN SN σ g lv xb1 u v q0 q1 R1) (h1 : xb1 ≤ xb) (h2 : lv2 ≤ lv) : TYG TN SN σ g lv2 xb u v q0 q1 R1 := by
  intro z1 z2 z3
  obtain ⟨m1, X1, Y1, s1, a1, a2, a3, a4⟩ := a z1 z2 z3
  exact ⟨m1, X1, Y1, s1, a1, a2, by omega, by omega⟩
theorem TYG_ro (a : TYG TN SN σ g lv xb u v q0 q1 R1) (h6 : ∀ n, R2 n → R1 n) (h7 : ∀ n, R1 n → R2 n ∨ A v 29 n = -1) : TYG TN SN σ g lv xb u v q0 q1 R2 := by
  intro z1 z2 z3
  obtain ⟨m1, X1, Y1, s1, a1⟩ := a z1 z2 z3
  exact ⟨m1, X1, Y1, SEQ_ro s1 h6 h7, a1⟩
theorem TYG_u (a : TYG TN SN σ g lv xb v w q0 q1 R1) (h1 : mks v = mks u) (h2 : nmo σ v = nmo σ u) : TYG TN SN σ g lv xb u w q0 q1 R1 := by
  unfold TYG at a ⊢
  rw [h1, h2] at a
  exact a
theorem TYG_v (a : TYG TN SN σ g lv xb u v q0 q1 R1) (k : KPR σ v w) (h1 : mks w = mks v) (h2 : nmo σ w = nmo σ v) : TYG TN SN σ g lv xb u w q0 q1 R1 := by
  intro z1 z2 z3
  obtain ⟨m1, X1, Y1, s1, a1, a2, a3⟩ := a (k.2.2.2.2.2.1 z1) (k.2.2.2.2.2.2 z2) z3
  have kn := KPR_n k
  refine ⟨m1, X1, Y1, ?_, a1, by omega, a3⟩
  rw [h1, h2]
  exact SEQ_mo (SEQ_kp s1 (fun i => Nat.le_refl _) k) (Nat.le_refl _) (Nat.le_refl _) (Nat.le_refl _) (Nat.le_refl _) kn.2.1
theorem TYG_mk {nm xx : Nat} (l1 : LGS σ w) (l0 : F w 66 = 0 → A v 60 σ ≤ 40) (h64 : A v 60 σ ≤ A w 64 σ ∧ A w 60 σ ≤ A w 64 σ ∧ 0 ≤ A w 64 σ) (s : ∀ mm X Y : Nat, nmo σ v ≤ mm → nmo σ w ≤ mm → xx ≤ X → SEQ w SN (gq g) (mks v) (mks w) q0 q1 (nmo σ v) (nmo σ w) (nmo σ v) mm X Y (hlo σ w) R) (hx : 2 * (xx : Int) ≤ xb) (hlv : lv ≤ 25) : TYG TN SN σ g lv xb v w q0 q1 R := by
  intro z1 z2 z3
  have t1 := l1 z2
  have t0 := l0 z2
  refine ⟨max (nmo σ v) (nmo σ w), xx, 0, s _ _ _ (Nat.le_max_left _ _) (Nat.le_max_right _ _) (Nat.le_refl _), ?_, ?_, hx, by omega⟩
  · unfold nmo; omega
  · unfold nmo; omega
theorem ONE_nd (a : NDW v w k t) (h : 0 ≤ F v 32) : ONE (mks v) (mks w) (F v 32).toNat := by
  obtain ⟨a1, a2, -⟩ := a
  refine ⟨rfl, ?_, ?_, ?_, fun i => ?_⟩
  · show (F w 32).toNat = _; omega
  · show (F w 46).toNat = (F v 46).toNat; rw [a1.F (by decide)]
  · show (F w 56).toNat = (F v 56).toNat; rw [a1.F (by decide)]
  · unfold mks
    by_cases z : i = 0
    · rw [if_pos z]; omega
    · rw [if_neg z]
      have : ∀ j : Nat, j ≠ 32 → (F v j).toNat ≤ (F w j).toNat := fun j hj => by rw [a1.F (by simpa using hj)]; exact Nat.le_refl _
      apply this
      by_cases z1 : i = 1
      · rw [if_pos z1]; decide
      · rw [if_neg z1]
        by_cases z2 : i = 2
        · rw [if_pos z2]; decide
        · rw [if_neg z2]
          by_cases z3 : i = 3
          · rw [if_pos z3]; decide
          · rw [if_neg z3]; decide
theorem NEWN_of (a : NDV v w k t) (ht : 0 ≤ t ∧ t < 4002) : NEWN w (F v 32).toNat k := ⟨a.1.2.2.1, by rw [a.1.2.2.2.1]; exact ht.1, by rw [a.1.2.2.2.1]; exact ht.2, a.2.2.2.2.1, a.2.2.2.2.2.1, a.2.2.2.2.2.2⟩
theorem NEWN_wa {r i : Nat} {y : Int} (a : NEWN w i k) (hr : r ∈ [25, 26, 27, 31]) : NEWN (wa w r i y) i k := by
  have : ∀ r, r ∈ [25, 26, 27, 31] → 23 ≠ r ∧ 24 ≠ r ∧ 28 ≠ r ∧ 29 ≠ r ∧ 30 ≠ r := by decide
  obtain ⟨b1, b2, b3, b4, b5⟩ := this r hr
  unfold NEWN
  rw [wa_rne b1, wa_rne b2, wa_rne b3, wa_rne b4, wa_rne b5]
  exact a
theorem TYG_nd {xx : Nat} (a : NDW v w k t) (h : 0 ≤ F v 32) (hs : SCP (F u0 17) σ v) (l : LGS σ v) (s : ∀ mm X Y : Nat, nmo σ v ≤ mm → xx ≤ X → SEQ w SN (gq g) (mks v) (mks w) q0 q1 (nmo σ v) (nmo σ v) (nmo σ v) mm X Y (hlo σ w) R) (hx : 2 * (xx : Int) ≤ xb) (hlv : lv ≤ 25) : TYG TN SN σ g lv xb v w q0 q1 R := by
  have a60 : A w 60 σ = A v 60 σ := a.1.A (by decide)
  have a64 : A w 64 σ = A v 64 σ := a.1.A (by decide)
  have f66 : F w 66 = F v 66 := a.1.F (by decide)
  have hn : nmo σ w = nmo σ v := by unfold nmo; rw [a60]
  have s1 := (hs σ (Nat.le_refl σ)).1
  refine TYG_mk (nm := 0) (xx := xx) (by unfold LGS; rw [a60, f66]; exact l) (by rw [f66]; exact l) (by omega) (fun mm X Y h1 h2 h3 => ?_) hx hlv
  rw [hn]
  exact s mm X Y h1 h3
def LVL (u : MS) (l : Int) : Prop := l = 0 ∨ ((l = 1 ∨ l = 2) ∧ TSO u = 3) ∨ (3 ≤ l ∧ l ≤ 6 ∧ (TSO u = 3 ∨ (TSO u = 6 ∧ ((12 ≤ A u 7 (F u 69).toNat ∧ A u 7 (F u 69).toNat ≤ 20) ∨ A u 7 (F u 69).toNat = 22 ∨ A u 7 (F u 69).toNat = 23))))
theorem level_ok (hp : 0 ≤ F u 69 ∧ F u 69 ≤ 4001) : OK (fun v r => v = u ∧ ∃ l, r = I l ∧ LVL u l) (fm_M_level N u) := by
  unfold fm_M_level fb_M_level_0 fb_M_level_61 fb_M_level_55 fb_M_level_104 fb_M_level_116 fb_M_level_132 fb_M_level_148
  refine k_at (k := 6) (n := 4002) rfl (by decide) (by omega) ?_
  rw [tn_F]
  refine k_A (y := 3) rfl ⟨by decide, by decide⟩ (fun z => ?_) (fun z => ?_)
  · refine k_isWord (s := 11) rfl ⟨by decide, by decide⟩ hp (fun _ => ok_some.mpr ⟨rfl, 1, rfl, Or.inr (Or.inl ⟨by omega, z⟩)⟩) (fun _ => ?_)
    refine k_isWord (s := 1) rfl ⟨by decide, by decide⟩ hp (fun _ => ok_some.mpr ⟨rfl, 2, rfl, Or.inr (Or.inl ⟨by omega, z⟩)⟩) (fun _ => ?_)
    refine k_isWord (s := 5) rfl ⟨by decide, by decide⟩ hp (fun _ => ok_some.mpr ⟨rfl, 6, rfl, Or.inr (Or.inr ⟨by omega, by omega, Or.inl z⟩)⟩) (fun _ => ?_)
    exact k_isWord (s := 13) rfl ⟨by decide, by decide⟩ hp (fun _ => ok_some.mpr ⟨rfl, 6, rfl, Or.inr (Or.inr ⟨by omega, by omega, Or.inl z⟩)⟩) (fun _ => ok_some.mpr ⟨rfl, 0, rfl, Or.inl rfl⟩)
  · refine k_at (k := 6) (n := 4002) rfl (by decide) (by omega) (k_A (y := 6) rfl ⟨by decide, by decide⟩ (fun z6 => ?_) (fun _ => ok_some.mpr ⟨rfl, 0, rfl, Or.inl rfl⟩))
    refine k_at (k := 7) (n := 4002) rfl (by decide) (by omega) (ok_lt.mpr ?_)
    have big : ∀ l : Int, 3 ≤ l ∧ l ≤ 6 → ((12 ≤ A u 7 (F u 69).toNat ∧ A u 7 (F u 69).toNat ≤ 20) ∨ A u 7 (F u 69).toNat = 22 ∨ A u 7 (F u 69).toNat = 23) → OK (fun v r => v = u ∧ ∃ l, r = I l ∧ LVL u l) (some (u, I l)) := fun l h1 h2 => ok_some.mpr ⟨rfl, l, rfl, Or.inr (Or.inr ⟨h1.1, h1.2, Or.inr ⟨z6, h2⟩⟩)⟩
    have t104 : OK (fun v r => v = u ∧ ∃ l, r = I l ∧ LVL u l) (br (decide (I (A u 7 (F u 69).toNat) = I 22)) (some (u, I 4)) (br (decide (I (A u 7 (F u 69).toNat) = I 23)) (some (u, I 4)) (br (decide (I (A u 7 (F u 69).toNat) = I 18)) (some (u, I 5)) (br (decide (I (A u 7 (F u 69).toNat) = I 19)) (some (u, I 5)) (br (decide (I (A u 7 (F u 69).toNat) = I 20)) (some (u, I 6)) (some (u, I 0))))))) := by
      refine k_eq (ARG1 u 7 _) ⟨by decide, by decide⟩ (fun z => big 4 (by omega) (by omega)) (fun _ => ?_)
      refine k_eq (ARG1 u 7 _) ⟨by decide, by decide⟩ (fun z => big 4 (by omega) (by omega)) (fun _ => ?_)
      refine k_eq (ARG1 u 7 _) ⟨by decide, by decide⟩ (fun z => big 5 (by omega) (by omega)) (fun _ => ?_)
      refine k_eq (ARG1 u 7 _) ⟨by decide, by decide⟩ (fun z => big 5 (by omega) (by omega)) (fun _ => ?_)
      exact k_eq (ARG1 u 7 _) ⟨by decide, by decide⟩ (fun z => big 6 (by omega) (by omega)) (fun _ => ok_some.mpr ⟨rfl, 0, rfl, Or.inl rfl⟩)
    rw [I_A (k := 7), show (12 : Int32) = I 12 from rfl, show (17 : Int32) = I 17 from rfl]
    refine k_lt (ARG1 u 7 _) ⟨by decide, by decide⟩ (fun _ => t104) (fun e1 => k_lt ⟨by decide, by decide⟩ (ARG1 u 7 _) (fun _ => t104) (fun e2 => big 3 (by omega) (by omega)))
theorem begins_ok (hp : 0 ≤ F u 69 ∧ F u 69 ≤ 4001) : OK (fun v r => v = u ∧ (r = 0 ∨ r = 1)) (fm_M_beginsUnit N u) := by
  unfold fm_M_beginsUnit fb_M_beginsUnit_0 fb_M_beginsUnit_137 fb_M_beginsUnit_142
  have y1 : OK (fun v r => v = u ∧ (r = (0 : Int32) ∨ r = 1)) (ck (isb 1) (some (u, (1 : Int32)))) := ok_ck.mpr ⟨rfl, ok_some.mpr ⟨rfl, Or.inr rfl⟩⟩
  have y0 : OK (fun v r => v = u ∧ (r = (0 : Int32) ∨ r = 1)) (ck (isb 0) (some (u, (0 : Int32)))) := ok_ck.mpr ⟨rfl, ok_some.mpr ⟨rfl, Or.inl rfl⟩⟩
  have ib : ∀ (y : Option (MS × Int32)), OK (fun v r => v = u ∧ (r = (0 : Int32) ∨ r = 1)) y → OK (fun v r => v = u ∧ (r = (0 : Int32) ∨ r = 1)) (ck (inb (u.1 69) (ln 6)) y) := fun y hy => k_at (k := 6) (n := 4002) rfl (by decide) (by omega) hy
  refine ib _ (ok_br.mpr ⟨fun _ => y1, fun _ => ib _ (ok_br.mpr ⟨fun _ => y1, fun _ => ib _ (ok_br.mpr ⟨fun _ => y1, fun _ => ib _ (ok_br.mpr ⟨fun _ => y1, fun _ => ?_⟩)⟩)⟩)⟩)
  refine k_isSign (s := 0) rfl ⟨by decide, by decide⟩ hp (fun _ => y1) (fun _ => ?_)
  refine k_isSign (s := 2) rfl ⟨by decide, by decide⟩ hp (fun _ => y1) (fun _ => ?_)
  refine k_isSign (s := 4) rfl ⟨by decide, by decide⟩ hp (fun _ => y1) (fun _ => ?_)
  refine k_isSign (s := 19) rfl ⟨by decide, by decide⟩ hp (fun _ => y1) (fun _ => ?_)
  refine k_isWord (s := 2) rfl ⟨by decide, by decide⟩ hp (fun _ => y1) (fun _ => ?_)
  refine k_isWord (s := 3) rfl ⟨by decide, by decide⟩ hp (fun _ => y1) (fun _ => ?_)
  refine k_isWord (s := 7) rfl ⟨by decide, by decide⟩ hp (fun _ => y1) (fun _ => ?_)
  refine k_isWord (s := 8) rfl ⟨by decide, by decide⟩ hp (fun _ => y1) (fun _ => ?_)
  refine k_isWord (s := 9) rfl ⟨by decide, by decide⟩ hp (fun _ => y1) (fun _ => ?_)
  exact k_isWord (s := 12) rfl ⟨by decide, by decide⟩ hp (fun _ => y1) (fun _ => y0)
theorem k_begins {α : Type} {Q : MS → α → Prop} {f g : MS → Int32 → Option (MS × α)} (hp : 0 ≤ F u 69 ∧ F u 69 ≤ 4001) (a : OK Q (g u 1)) (b : OK Q (f u 0)) : OK Q (bnd (fm_M_beginsUnit N u) (fun u1 r1 => br (decide (r1 = 0)) (f u1 r1) (g u1 r1))) := by
  refine ok_bnd.mpr (ok_mono (begins_ok hp) (fun v r hv => ?_))
  obtain ⟨rfl, h⟩ := hv
  rcases h with h | h
  · rw [h, br00]; exact b
  · rw [h, br10]; exact a
def adr (u : MS) (i x : Nat) : MS := wa (wa u 29 x (A u 28 i)) 28 i x
theorem addRoot_0 {i : Int32} : fm_M_addRoot N u i (-1) = some (u, ()) := by
  unfold fm_M_addRoot fb_M_addRoot_0
  rw [show decide ((-1 : Int32) = -1) = true from rfl, br_tq]
  rfl
theorem addRoot_1 {i x : Nat} (hi : i < 16000) (hx : x < 16000) : fm_M_addRoot N u (I i) (I x) = some (adr u i x, ()) := by
  unfold fm_M_addRoot fb_M_addRoot_0 fb_M_addRoot_24
  rw [show (-1 : Int32) = I (-1) from rfl, decE (by omega) (by omega) (by omega) (by omega), decide_eq_false (by omega), br_fq]
  simp only [lt_e]
  have ti : (I (i : Int)).toNatClampNeg = i := by rw [I_tn (by omega) (by omega)]; omega
  have tx : (I (x : Int)).toNatClampNeg = x := by rw [I_tn (by omega) (by omega)]; omega
  rw [inb_at (k := 28) (n := 16000) rfl (by omega) (by omega) (by decide), inb_at (k := 29) (n := 16000) rfl (by omega) (by omega) (by decide), ck_t, ck_t, ck_t, ti, tx, I_A (k := 28), wa_e, wa_e]
  rfl
end
end
section
def EXQ (u0 : MS) (TN SN : Nat) (bw : Nat → Nat) (σ : Nat) (lv p o n q c f h s wt g : Int) (u v : MS) (r : Int32) : Prop := F v 67 = 0 ∧ ∃ (p2 n2 q2 c2 f2 h2 : Int) (e : Nat), r = I e ∧ ST u0 σ p2 o n2 q2 c2 f2 h2 s wt g v ∧ KPR σ u v ∧ p2 ≤ TN ∧ DLT bw 2 1 (1 + nu u0 p2.toNat) p n q c f h p2 n2 q2 c2 f2 h2 ∧ (n ≤ e ∧ (e : Int) < n2 ∧ RTD v (26 - lv).toNat n.toNat e ∧ A v 29 e = -1) ∧ LGS σ v ∧ TYG TN SN σ g lv (p2 - p + 1) u v 0 1 (fun i => i = e)
def FEQ (u0 : MS) (TN σ : Nat) (D : Int) (v : MS) (r : Int32) : Prop := FSM u0 TN σ D v ∧ ∃ x : Int, r = I x ∧ (x = -1 ∨ (0 ≤ x ∧ x < F v 32 ∧ A v 28 x.toNat = -1))
def XSP (u0 : MS) (TN SN : Nat) (bw : Nat → Nat) (D k j l dl o : Int) (fn : MS → Option (MS × Int32)) : Prop := ∀ (u : MS) (σ : Nat) (p n q c f h s wt g : Int), ST u0 σ p o n q c f h s wt g u → F u 67 = 0 → NM TN bw k j l σ p o n q c f h s wt → LGS σ u → OK (fun v r => EXQ u0 TN SN bw σ (o - dl) p o n q c f h s wt g u v r ∨ FEQ u0 TN σ D v r) (fn u)
def XNO (fn : MS → Option (MS × Int32)) : Prop := ∀ u : MS, F u 67 ≠ 0 → fn u = some (u, -1)
def XSF (u0 : MS) (TN : Nat) (D : Int) (fn : MS → Option (MS × Int32)) : Prop := ∀ (u : MS) (σ : Nat) (p o n q c f h s wt g : Int), ST u0 σ p o n q c f h s wt g u → F u 67 ≠ 0 → (0 ≤ p ∧ p ≤ TN ∧ TN ≤ 4000) → (0 ≤ n ∧ n ≤ 12000) → (0 ≤ h ∧ h + 60 * σ ≤ 23400) → (0 ≤ s ∧ s ≤ 26 ∧ σ ≤ 26) → OK (FEQ u0 TN σ D) (fn u)
section
variable {α : Type} {Q : MS → α → Prop} {u0 u v v1 w x : MS} {N σ TN SN q0 q1 q2 q3 e : Nat} {bw : Nat → Nat} {p o n q c f h s wt g lv xb xb1 xb2 k t m D d : Int} {R R1 R2 : Nat → Prop} {r : Int32}
theorem NM_fs {j l : Int} (hm : NM TN bw k j l σ p o n q c f h s wt) (hj : 0 ≤ j) : (0 ≤ h ∧ h + 60 * σ ≤ 23400) ∧ (0 ≤ n ∧ n ≤ 12000) ∧ (0 ≤ p ∧ p ≤ TN ∧ TN ≤ 4000) ∧ σ ≤ 25 := by
  unfold NM at hm
  omega
theorem op1_mks : mks (op1 u) = mks u := by
  funext i
  unfold mks
  have : ∀ j : Nat, j ≠ 70 → F (op1 u) j = F u j := fun j hj => wi_ne hj
  rw [this]
  by_cases z : i = 0
  · rw [if_pos z]; decide
  · rw [if_neg z]
    by_cases z1 : i = 1
    · rw [if_pos z1]; decide
    · rw [if_neg z1]
      by_cases z2 : i = 2
      · rw [if_pos z2]; decide
      · rw [if_neg z2]
        by_cases z3 : i = 3
        · rw [if_pos z3]; decide
        · rw [if_neg z3]; decide
theorem wi_mks {b : Nat} {y : Int} (hb : b ∉ [32, 39, 46, 56, 58]) : mks (wi u b y) = mks u := by
  funext i
  have t : ∀ j : Nat, j ∈ [32, 39, 46, 56, 58] → F (wi u b y) j = F u j := fun j hj => wi_ne (fun z => hb (by rw [← z]; exact hj))
  unfold mks
  by_cases z : i = 0
  · rw [if_pos z, t 32 (by decide)]
  · rw [if_neg z]
    by_cases z1 : i = 1
    · rw [if_pos z1, t 46 (by decide)]
    · rw [if_neg z1]
      by_cases z2 : i = 2
      · rw [if_pos z2, t 39 (by decide)]
      · rw [if_neg z2]
        by_cases z3 : i = 3
        · rw [if_pos z3, t 56 (by decide)]
        · rw [if_neg z3, t 58 (by decide)]
theorem fr_mks {is as js : List Nat} (a : FR is [] as js u v) (h : ∀ k, k ∈ [32, 39, 46, 56, 58] → k ∉ is) : mks v = mks u := by
  funext i
  have t : ∀ j : Nat, j ∈ [32, 39, 46, 56, 58] → F v j = F u j := fun j hj => a.F (h j hj)
  unfold mks
  by_cases z : i = 0
  · rw [if_pos z, t 32 (by decide)]
  · rw [if_neg z]
    by_cases z1 : i = 1
    · rw [if_pos z1, t 46 (by decide)]
    · rw [if_neg z1]
      by_cases z2 : i = 2
      · rw [if_pos z2, t 39 (by decide)]
      · rw [if_neg z2]
        by_cases z3 : i = 3
        · rw [if_pos z3, t 56 (by decide)]
        · rw [if_neg z3, t 58 (by decide)]
theorem RTD_A {w2 : MS} {hh a i : Nat} (h : RTD w hh a i) (e : ∀ r j, r ∈ [28, 29] → A w2 r j = A w r j) : RTD w2 hh a i := RTD_fr hh i h (e 28 i (by decide)) (fun r j hr _ _ => e r j hr)
theorem EXQ_wrap (ho : 0 ≤ o ∧ o ≤ 25) (b : EXQ u0 TN SN bw σ lv p (o + 1) n q c f h s wt g (op1 u) v r) : EXQ u0 TN SN bw σ lv p o n q c f h s wt g u (clo1 v) r := by
  obtain ⟨b0, p2, n2, q2, c2, f2, h2, e, b1, b2, b3, b4, b5, b6, b7, b8⟩ := b
  have kp : KPR σ u (clo1 v) := KPR_w0 (KPR_tr (KPR_w0 KPR_rf (by decide)) b3) (by decide)
  refine ⟨(wi_ne (by decide)).trans b0, p2, n2, q2, c2, f2, h2, e, b1, ?_, kp, b4, b5, ⟨b6.1, b6.2.1, RTD_A b6.2.2.1 (fun _ _ _ => rfl), b6.2.2.2⟩, ?_, ?_⟩
  · have := ST_cl b2 (by omega)
    rwa [show o + 1 - 1 = o from by omega] at this
  · intro z; exact b7 (by rw [← z]; exact (wi_ne (by decide)).symm)
  · exact TYG_v (TYG_u b8 op1_mks rfl) (KPR_w0 KPR_rf (by decide)) (wi_mks (by decide)) rfl
theorem FEQ_wi {b : Nat} {y : Int} (a : FEQ u0 TN σ D v r) (h : b ∈ [39, 46, 56, 66, 70, 72, 73, 75, 77, 83, 84]) : FEQ u0 TN σ D (wi v b y) r := by
  obtain ⟨a1, z, a2, a3⟩ := a
  have : ∀ b, b ∈ [39, 46, 56, 66, 70, 72, 73, 75, 77, 83, 84] → 32 ≠ b := by decide
  refine ⟨FSM_wi a1 h, z, a2, a3.imp id (fun y => ⟨y.1, ?_, y.2.2⟩)⟩
  rw [wi_ne (this b h)]
  exact y.2.1
theorem FEQ_none (a : FSM u0 TN σ D v) : FEQ u0 TN σ D v (-1) := ⟨a, -1, rfl, Or.inl rfl⟩
theorem FEQ_mo {D2 : Int} (a : FEQ u0 TN σ D v r) (h : D ≤ D2) : FEQ u0 TN σ D2 v r := ⟨FSM_mo a.1 h, a.2⟩
def UBQ (σ : Nat) (u v w : MS) : Prop := (FR [32] [] [23, 24, 25, 26, 27, 28, 29, 30, 31, 60] [] v w ∧ (∀ r i, r ∈ [23, 24, 25, 26, 27, 28, 29, 30, 31] → (i : Nat) < F v 32 → A w r i = A v r i) ∧ A w 60 σ = A u 60 σ) ∧ (F v 32 ≤ F w 32 ∧ F w 32 ≤ F v 32 + 1)
theorem unbind_N {y : Int32} {fn : MS → Unit → Option (MS × α)} (hs : ST u0 σ p o n q c f h s wt g v) (hf : F v 67 = 0) (kp : KPR σ u v) (hp : 0 ≤ p ∧ p < 4002) (hn : 0 ≤ n ∧ n < 16000) (hσ : σ ≤ 26) (hy : y = I (A u 60 σ)) (hu : 0 ≤ A u 60 σ) (lu : LGS σ u) (ty : TYG TN SN σ g lv xb u v 0 1 R) (hx : 2 ≤ xb) (a : ∀ (w : MS) (n2 : Int), (n ≤ n2 ∧ n2 ≤ n + 1) → ST u0 σ p o n2 q c f h s wt g w → F w 67 = 0 → KPR σ u w → UBQ σ u v w → LGS σ w → TYG TN SN σ g lv xb u w 0 1 R → OK Q (fn w ())) : OK Q (bnd (fm_M_unbind N v y) fn) := by
  have e32 : F v 32 = n := hs.2.1.2.2.1
  have e69 : F v 69 = p := hs.2.1.1
  have kn := kp.2.2.1.2.2.2 σ (Nat.le_refl σ)
  refine k_unbind hy (ARG1 u 60 σ) hs.2.1.2.2.2.2.2.2.2.2.2.2.2 hσ (by omega) (by omega) (fun e => ?_) (fun e w hw => ?_)
  · have e60 : A v 60 σ = A u 60 σ := by omega
    exact a v n (by omega) hs hf kp ⟨⟨FR.rf, fun _ _ _ _ => rfl, e60⟩, by omega, by omega⟩ (fun z => by rw [e60]; exact lu (kp.2.2.2.2.2.2 z)) ty
  · have sw := ST_unb hs hw hp (by omega) (by omega)
    have kw := KPR_unb kp hw (by omega) (Int.le_refl _) (ARG1 u 60 σ)
    obtain ⟨v1, hv, rfl⟩ := hw
    rw [e69] at hv
    have ub : UBQ σ u v (wa (wa v1 25 (F v 32).toNat (A u 60 σ)) 60 σ (A u 60 σ)) := by
      refine ⟨⟨FR.wa (FR.wa (FR.mo hv.1.1 (by decide) (by decide) (by decide) (by decide)) (by decide)) (by decide), fun r i hr hi => ?_, wa_eq (ARG1 u 60 σ)⟩, ?_, ?_⟩
      · have : ∀ r, r ∈ [23, 24, 25, 26, 27, 28, 29, 30, 31] → r ≠ 60 := by decide
        rw [wa_rne (this r hr), wa_ne (by omega)]
        exact hv.1.2.2.2.2 r i (by omega)
      · show F v 32 ≤ F v1 32; rw [hv.1.2.1]; omega
      · show F v1 32 ≤ _; rw [hv.1.2.1]; omega
    have f67 : F (wa (wa v1 25 (F v 32).toNat (A u 60 σ)) 60 σ (A u 60 σ)) 67 = 0 := by
      show F v1 67 = 0; rw [hv.1.1.F (by decide)]; exact hf
    refine a _ (n + 1) (by omega) sw f67 kw ub (fun z => ?_) (fun z1 z2 z3 => ?_)
    · rw [ub.1.2.2]; exact lu (kw.2.2.2.2.2.2 z)
    · have z1' : F v 72 = 0 := by rw [← z1]; exact (ub.1.1.F (by decide)).symm
      have z2' : F v 66 = 0 := by rw [← z2]; exact (ub.1.1.F (by decide)).symm
      obtain ⟨mm, X, Y, s1, s2, s3, s4, s5⟩ := ty z1' z2' z3
      have g0 : gq g = 0 := by
        by_cases z : gq g = 0
        · exact z
        · have := s1.1.2.1 z
          unfold nmo at this
          have h1 := (hs.2.2.2.1 σ (Nat.le_refl σ)).1
          omega
      have k2 : KPR σ v (wa v1 25 (F v 32).toNat (A u 60 σ)) := KPR_wn (KPR_nd KPR_rf hv.1 (by omega)) (by decide) (by omega)
      have t1 := SEQ_kp s1 (fun i => Nat.le_refl _) k2
      have t2 : SEQ (wa (wa v1 25 (F v 32).toNat (A u 60 σ)) 60 σ (A u 60 σ)) SN (gq g) (mks u) (mks v) 0 1 (nmo σ u) (nmo σ v) (nmo σ u) mm X Y (hlo σ v) R := by
        have q : ∀ r i, r ≠ 60 → A (wa (wa v1 25 (F v 32).toNat (A u 60 σ)) 60 σ (A u 60 σ)) r i = A (wa v1 25 (F v 32).toNat (A u 60 σ)) r i := fun r i hr => wa_rne hr
        have m1 : ∀ r, r ∈ [23, 24, 25, 26, 27, 31] → r ≠ 60 := by decide
        have m2 : ∀ r, r ∈ [40, 41, 42, 43, 45] → r ≠ 60 := by decide
        have m3 : ∀ r, r ∈ [33, 35, 36, 37, 38] → r ≠ 60 := by decide
        have m4 : ∀ r, r ∈ [53, 54, 55] → r ≠ 60 := by decide
        have m5 : ∀ r, r ∈ [28, 29, 30] → r ≠ 60 := by decide
        exact SEQ_st t1 ⟨rfl, fun r i hr _ _ => q r i (m1 r hr), fun r i hr _ _ => q r i (m2 r hr), fun r i hr _ => q r i (m3 r hr), fun r i hr _ _ => q r i (m4 r hr), fun i _ => q 57 i (by decide)⟩ (fun r i hr _ _ _ => q r i (m5 r hr))
      have on : ONE (mks v) (mks (wa (wa v1 25 (F v 32).toNat (A u 60 σ)) 60 σ (A u 60 σ))) (F v 32).toNat := ONE_nd (w := v1) hv.1 (by omega)
      have hw60 : nmo σ (wa (wa v1 25 (F v 32).toNat (A u 60 σ)) 60 σ (A u 60 σ)) = nmo σ u := by unfold nmo; rw [ub.1.2.2]
      have hw63 : hlo σ (wa (wa v1 25 (F v 32).toNat (A u 60 σ)) 60 σ (A u 60 σ)) = hlo σ v := by unfold hlo; rw [ub.1.1.A (by decide)]
      have nw : NEWN (wa (wa v1 25 (F v 32).toNat (A u 60 σ)) 60 σ (A u 60 σ)) (F v 32).toNat 18 := by
        have := NEWN_wa (r := 25) (y := A u 60 σ) (NEWN_of hv hp) (by decide)
        unfold NEWN at this ⊢
        rw [wa_rne (by decide), wa_rne (by decide), wa_rne (by decide), wa_rne (by decide), wa_rne (by decide)]
        exact this
      have lo := s1.1
      have x1 : 1 ≤ X := lo.2.2.2.2.2.2.2.1
      have un := s18 (SN := SN) (mm := mm) (X := X - 1) (Y := Y) (sh := hlo σ v) (m := nmo σ v) (lo := nmo σ u) (x := nmo σ u) on nw ⟨lo.2.2.2.1, lo.2.2.2.2.2.1, Nat.le_refl _, lo.2.2.2.1⟩ (by rw [wa_rne (by decide), wa_eq (ARG1 u 60 σ)]; unfold nmo; omega)
      rw [g0] at t2 ⊢
      refine ⟨mm, X, Y, ?_, s2, ?_, s4, s5⟩
      · rw [hw60, hw63]
        have un1 := SEQ_up un 1
        rw [show X - 1 + 1 = X by omega] at un1
        refine SEQ_ro (SEQ_app t2 un1) (fun i hi => Or.inl hi) (fun i hi => ?_)
        rcases hi with hi | hi
        · exact Or.inl hi
        · exact Or.inr (by rw [hi]; exact nw.2.2.2.2.1)
      · rw [ub.1.1.A (by decide)]; exact s3
end
end
section
section
variable {α : Type} {Q : MS → α → Prop} {u0 u v v1 w x : MS} {N σ TN SN q0 q1 q2 q3 e : Nat} {bw : Nat → Nat} {p o n q c f h s wt g lv xb xb1 xb2 k t m D d : Int} {R R1 R2 : Nat → Prop} {r : Int32} {S : SG_M_behind} {a b : Nat → Nat}
theorem SEQ_wn {g q q2 m m2 lo mm X Y sh i r : Nat} {y : Int} (s : SEQ v SN g a b q q2 m m2 lo mm X Y sh R) (hr : r ∈ [23, 24, 25, 26, 27, 28, 29, 30, 31]) (hi : i < a 0 ∨ b 0 ≤ i) : SEQ (wa v r i y) SN g a b q q2 m m2 lo mm X Y sh R := by
  have m1 : ∀ r, r ∈ [23, 24, 25, 26, 27, 28, 29, 30, 31] → r ∉ [40, 41, 42, 43, 45] ∧ r ∉ [33, 35, 36, 37, 38] ∧ r ∉ [53, 54, 55] ∧ 57 ≠ r := by decide
  obtain ⟨b1, b2, b3, b4⟩ := m1 r hr
  refine SEQ_st s ⟨rfl, fun r2 j h1 h2 h3 => wa_ne (by omega), fun r2 j h1 h2 h3 => wa_rne (fun z => b1 (by rw [← z]; exact h1)), fun r2 j h1 h2 => wa_rne (fun z => b2 (by rw [← z]; exact h1)), fun r2 j h1 h2 h3 => wa_rne (fun z => b3 (by rw [← z]; exact h1)), fun j _ => wa_rne b4⟩ (fun r2 j h1 h2 h3 _ => wa_ne (by omega))
theorem KND_of (a : NDV v w k t) (ht : 0 ≤ t ∧ t < 4002) : KND w (F v 32).toNat k := ⟨a.1.2.2.1, by rw [a.1.2.2.2.1]; exact ht.1, by rw [a.1.2.2.2.1]; exact ht.2, a.2.2.2.2.1, a.2.2.2.2.2.1⟩
theorem KND_eq {i : Nat} (a : KND v i k) (e : ∀ r, r ∈ [23, 24, 28, 29] → A w r i = A v r i) : KND w i k := by
  unfold KND at a ⊢
  rw [e 23 (by decide), e 24 (by decide), e 28 (by decide), e 29 (by decide)]
  exact a
theorem k_65 {y : Option (MS × α)} {k : Nat} (hk : ln k = 27) (h65 : F u 65 = σ) (hσ : σ ≤ 26) (q : OK Q y) : OK Q (ck (inb (u.1 65) (ln k)) y) := k_at hk (by decide) (by omega) q
theorem tn_65 (h65 : F u 65 = σ) : (u.1 65).toNatClampNeg = σ := by rw [tn_F, h65]; exact Int.toNat_natCast σ
theorem catch_F (hT : TN ≤ 4000) (hσ : σ ≤ 26) (hD : 0 ≤ D ∧ D ≤ 3000) (hx : XNO S.2.2.2.2.2.2.2.2.2.2.2.2.2.1) (hs : FSM u0 TN σ D w) (hp : F w 69 ≤ TN) : OK (FEQ u0 TN σ (D + 10)) (fb_M_expression_60 N S () w) := by
  unfold fb_M_expression_60
  have hp0 := hs.2.2.1
  have hn0 := hs.2.2.2.2.1
  refine k_node (k := 19) (t := F w 69) rfl (by decide) I_F (by omega) (by omega) (fun v1 hv1 => ok_lt.mpr ?_)
  have s1 := FSM_nd hs hv1.1
  rw [nx1_e]
  have e69 : F v1 69 = F w 69 := hv1.1.1.F (by decide)
  have s2 : FSM u0 TN σ (D + 1) (nx1 v1) := by
    unfold nx1; rw [e69]; exact FSM_69 s1 (by omega) hT
  have e65 : F (nx1 v1) 65 = σ := s2.2.2.2.1
  refine k_65 rfl e65 hσ (ok_lt.mpr ?_)
  refine k_in (k := 26) (n := 16000) rfl (by decide) (by omega) (ok_lt.mpr ?_)
  rw [tn_65 e65, I_tn (by omega) (by omega), I_A (w := nx1 v1) (k := 60), wa_e]
  have s3 : FSM u0 TN σ (D + 1) (wa (nx1 v1) 26 (F w 32).toNat (A (nx1 v1) 60 σ)) := FSM_wa s2 (by decide)
  generalize wa (nx1 v1) 26 (F w 32).toNat (A (nx1 v1) 60 σ) = w5 at *
  rw [hx w5 s3.2.1, bnd_so]
  have n5 := s3.2.2.2.2.1
  have p5 := s3.2.2.1
  have fin : ∀ w7, FSM u0 TN σ (D + 2) w7 → OK (FEQ u0 TN σ (D + 10)) (bnd (fm_M_node N w7 20 (w7.1 69)) (fun u8 r8 => ck (inb (I (F w 32)) (ln 25)) (lt (upA u8 25 (upd (u8.2.2.1 25) (F w 32).toNat (u8.1 32))) (fun w9 => fb_M_expression_137 N S () w9 (r8))))) := fun w7 s7 => by
    have n7 := s7.2.2.2.2.1
    have p7 := s7.2.2.1
    refine k_node (k := 20) (t := F w7 69) rfl (by decide) I_F (by omega) (by omega) (fun v8 hv8 => ?_)
    have s8 := FSM_nd s7 hv8.1
    refine k_in (k := 25) (n := 16000) rfl (by decide) (by omega) (ok_lt.mpr ?_)
    rw [I_F (w := v8) (k := 32), wa_e]
    unfold fb_M_expression_137
    rw [clo1_e]
    refine ok_lt.mpr (ok_some.mpr ?_)
    refine FEQ_wi ⟨FSM_mo (FSM_wa s8 (by decide)) (by omega), F w7 32, rfl, Or.inr ⟨by omega, ?_, ?_⟩⟩ (by decide)
    · show F w7 32 < F v8 32; rw [hv8.1.2.1]; omega
    · rw [wa_rne (by decide)]; exact hv8.2.2.2.2.1
  refine k_unbind (m := A (nx1 v1) 60 σ) rfl (ARG1 _ _ _) s3.2.2.2.1 hσ (by omega) (by omega) (fun _ => fin w5 (FSM_mo s3 (by omega))) (fun _ w7 hw7 => fin w7 (FSM_mo (FSM_unb s3 hw7) (by omega)))
theorem catch_N (tk : TKW u0 TN SN bw) (hD : 0 ≤ D ∧ D ≤ 3000) (ho : 0 ≤ o ∧ o ≤ 24) (hx : XSP u0 TN SN bw D 3 0 0 0 (o + 1) S.2.2.2.2.2.2.2.2.2.2.2.2.2.1) (hs : ST u0 σ p (o + 1) n q c f h s wt g w) (hf : F w 67 = 0) (hm : NM TN bw 3 0 0 σ p o n q c f h s wt) (hw : IW w 4) (hl : LGS σ w) (hg : g = 0 ∨ F w 72 ≠ 0) (ku : KPR σ u w) (mu : mks w = mks u) (nu : nmo σ w = nmo σ u) (hu32 : F u 32 = n) : OK (fun v r => EXQ u0 TN SN bw σ o p o n q c f h s wt g u v r ∨ FEQ u0 TN σ (D + 10) v r) (fb_M_expression_60 N S () w) := by
  have fs := NM_fs hm (by omega)
  have tw := ST_IW hs hw
  have ltp := tok_lt tk (by omega) (show ¬ (A u0 6 (p).toNat = 0 ∨ A u0 6 (p).toNat = 7) by omega)
  have hT := tk.1.1
  have e32 : F w 32 = n := hs.2.1.2.2.1
  have e69 : F w 69 = p := hs.2.1.1
  have bws := bw_mono tk (i := p.toNat) (m := (p + 1).toNat) (by omega) (by omega)
  have bwt := bw_top tk (i := (p + 1).toNat) (by omega)
  unfold fb_M_expression_60
  refine k_node (k := 19) (t := F w 69) rfl (by decide) I_F (by omega) (by omega) (fun v1 hv1 => ok_lt.mpr ?_)
  rw [nx1_e]
  have s1 := ST_nd hs (v := v1) (k := 19) (t := F w 69) hv1.1 (by omega) (by omega) (fun z => by omega)
  have s2 := ST_nx s1 (by omega)
  have e65 : F (nx1 v1) 65 = σ := s2.2.1.2.2.2.2.2.2.2.2.2.2.2
  have k2 : KPR σ w (nx1 v1) := KPR_w0 (KPR_nd KPR_rf hv1.1 (by omega)) (by decide)
  have a60 : A (nx1 v1) 60 σ = A w 60 σ := hv1.1.1.A (by decide)
  refine k_65 rfl e65 (by omega) (ok_lt.mpr ?_)
  refine k_in (k := 26) (n := 16000) rfl (by decide) (by omega) (ok_lt.mpr ?_)
  rw [tn_65 e65, I_tn (by omega) (by omega), I_A (w := nx1 v1) (k := 60), wa_e, e32]
  have ry : RG (A (nx1 v1) 60 σ) := ARG1 _ _ _
  generalize A (nx1 v1) 60 σ = y4 at *
  have s3 : ST u0 σ (p + 1) (o + 1) (n + 1) q c f h s wt g (wa (nx1 v1) 26 n.toNat y4) := ST_wa s2 (by decide)
  have k3 : KPR σ w (wa (nx1 v1) 26 n.toNat y4) := KPR_wn k2 (by decide) (by omega)
  have kn3 : KND (wa (nx1 v1) 26 n.toNat y4) n.toNat 19 := by
    have := KND_of hv1 (by omega)
    rw [e32] at this
    exact KND_eq this (fun r hr => by
      have : ∀ r, r ∈ [23, 24, 28, 29] → r ≠ 26 := by decide
      rw [wa_rne (this r hr)]; rfl)
  have f3 : F (wa (nx1 v1) 26 n.toNat y4) 67 = 0 := by
    show F (nx1 v1) 67 = 0
    rw [show F (nx1 v1) 67 = F v1 67 from wi_ne (by decide), hv1.1.1.F (by decide)]; exact hf
  have b60 : A (wa (nx1 v1) 26 n.toNat y4) 60 σ = A w 60 σ := by rw [wa_rne (by decide)]; exact hv1.1.1.A (by decide)
  have l3 : LGS σ (wa (nx1 v1) 26 n.toNat y4) := fun z => by rw [b60]; exact hl (k3.2.2.2.2.2.2 z)
  have o3 : ONE (mks w) (mks (wa (nx1 v1) 26 n.toNat y4)) (F w 32).toNat := by
    have := ONE_nd hv1.1 (by omega)
    rw [show mks (wa (nx1 v1) 26 n.toNat y4) = mks (nx1 v1) from rfl, show mks (nx1 v1) = mks v1 from wi_mks (by decide)]
    exact this
  generalize wa (nx1 v1) 26 n.toNat y4 = w5 at *
  have h60 : 0 ≤ A w5 60 σ := (s3.2.2.2.1 σ (Nat.le_refl σ)).1.1
  have e5 : F w5 32 = n + 1 := s3.2.1.2.2.1
  have nm5 : NM TN bw 3 0 0 σ (p + 1) (o + 1) (n + 1) q c f h s wt := by unfold NM at hm ⊢; omega
  refine ok_bnd.mpr (ok_mono (hx w5 σ _ _ _ _ _ _ _ _ _ s3 f3 nm5 l3) (fun v6 r6 hv6 => ?_))
  rcases hv6 with ⟨z0, p6, n6, q6, c6, f6, h6, e6, z1, z2, z3, z4, z5, z6, z7, z8⟩ | hv6
  · have n6b : n + 1 ≤ n6 ∧ n6 ≤ 12000 := by unfold DLT at z5; unfold NM at hm; omega
    have p6b : p + 2 ≤ p6 := by unfold DLT at z5; omega
    have z5' := z5
    refine unbind_N (u := w5) (R := fun i => i = e6) z2 z0 z3 (by omega) (by omega) (by omega) (by rw [a60, b60]) h60 l3 z8 (by omega) (fun w7 n7 hn7 s7 f7 k7 ub7 l7 t7 => ?_)
    have e7 : F w7 32 = n7 := s7.2.1.2.2.1
    have p7 : F w7 69 = p6 := s7.2.1.1
    refine k_node (k := 20) (t := F w7 69) rfl (by decide) I_F (by omega) (by omega) (fun v8 hv8 => ?_)
    refine k_in (k := 25) (n := 16000) rfl (by decide) (by omega) (ok_lt.mpr ?_)
    rw [I_F (w := v8) (k := 32), wa_e]
    unfold fb_M_expression_137
    rw [clo1_e]
    refine ok_lt.mpr (ok_some.mpr (Or.inl ?_))
    have s8 := ST_nd s7 (v := v8) (k := 20) (t := F w7 69) hv8.1 (by omega) (by omega) (fun z => by omega)
    have e8 : F v8 32 = n7 + 1 := s8.2.1.2.2.1
    have n23 : KND (wa v8 25 n.toNat (F v8 32)) n.toNat 19 := by
      refine KND_eq kn3 (fun r hr => ?_)
      have m1 : ∀ r, r ∈ [23, 24, 28, 29] → r ≠ 25 ∧ r ∈ [23, 24, 25, 26, 27, 28, 29, 30, 31] := by decide
      rw [wa_rne (m1 r hr).1, hv8.1.2.2.2.2 r n.toNat (by omega), ub7.1.2.1 r n.toNat (m1 r hr).2 (by rw [z2.2.1.2.2.1]; omega)]
      exact z3.2.1.1 r n.toNat (m1 r hr).2 (by omega)
    have n28 : KND (wa v8 25 n.toNat (F v8 32)) n7.toNat 20 := by
      have := KND_of hv8 (by omega)
      rw [e7] at this
      refine KND_eq this (fun r hr => ?_)
      have m1 : ∀ r, r ∈ [23, 24, 28, 29] → r ≠ 25 := by decide
      exact wa_rne (m1 r hr)
    have s9 : ST u0 σ p6 (o + 1) (n7 + 1) q6 c6 f6 h6 s wt g (wa v8 25 n.toNat (F v8 32)) := ST_wa25 s8 (by have := n23.1; rw [wa_rne (by decide)] at this; omega)
    have k9 : KPR σ w (wa v8 25 n.toNat (F v8 32)) := KPR_wn (KPR_nd (KPR_tr k3 k7) hv8.1 (by omega)) (by decide) (by omega)
    have f9 : F (wa v8 25 n.toNat (F v8 32)) 67 = 0 := by
      show F v8 67 = 0
      rw [hv8.1.1.F (by decide)]; exact f7
    have a9 : A (wa v8 25 n.toNat (F v8 32)) 60 σ = A w 60 σ := by
      rw [wa_rne (by decide), hv8.1.1.A (by decide), ub7.1.2.2]; exact b60
    have ty9 : TYG TN SN σ g o (p6 - p + 1) w (wa v8 25 n.toNat (F v8 32)) 0 1 (fun i => i = n7.toNat) := by
      intro y1 y2 y3
      have g0 : gq g = 0 := by
        rcases hg with hg | hg
        · unfold gq; rw [if_pos hg]
        · exact absurd (k9.2.2.2.2.2.1 y1) hg
      have y1' : F w7 72 = 0 := by rw [← y1]; exact (hv8.1.1.F (by decide)).symm
      have y2' : F w7 66 = 0 := by rw [← y2]; exact (hv8.1.1.F (by decide)).symm
      obtain ⟨mm, X, Y, q1, q2, q3, q4, q5⟩ := t7 y1' y2' y3
      have k8 : KPR σ w7 v8 := KPR_nd KPR_rf hv8.1 (by omega)
      have q1b := SEQ_wn (r := 25) (i := n.toNat) (y := F v8 32) (SEQ_kp q1 (fun i => Nat.le_refl _) k8) (by decide) (Or.inl (by show n.toNat < (F w5 32).toNat; omega))
      have n7e : nmo σ w7 = nmo σ w5 := by unfold nmo; rw [ub7.1.2.2]
      have n5e : nmo σ w5 = nmo σ w := by unfold nmo; rw [b60]
      have n9e : nmo σ (wa v8 25 n.toNat (F v8 32)) = nmo σ w := by unfold nmo; rw [a9]
      have h9e : hlo σ (wa v8 25 n.toNat (F v8 32)) = hlo σ w7 := by unfold hlo; rw [wa_rne (by decide), hv8.1.1.A (by decide)]
      have o8 := ONE_nd hv8.1 (show 0 ≤ F w7 32 by omega)
      rw [g0, n7e, n5e] at q1b
      have r6 : A (wa v8 25 n.toNat (F v8 32)) 29 e6 = -1 := by
        rw [wa_rne (by decide), hv8.1.2.2.2.2 29 e6 (by omega), ub7.1.2.1 29 e6 (by decide) (by rw [z2.2.1.2.2.1]; omega)]
        exact z6.2.2.2
      refine ⟨mm, X, Y + 1, ?_, q2, ?_, by omega, by omega⟩
      · rw [g0, n9e, h9e]
        refine SEQ_catch (a1 := mks w5) (b1 := mks w7) (n := n.toNat) (by show (F w 32).toNat = _; omega) ⟨by show (F w5 32).toNat = _; omega, o3.2.2.1, o3.2.2.2.1, o3.2.2.2.2⟩ ⟨by show (F w7 32).toNat = _; omega, by show (F v8 32).toNat = _; omega, o8.2.2.1, o8.2.2.2.1, o8.2.2.2.2⟩ n23 ?_ n28 (SEQ_ro q1b (fun i hi => hi.elim) (fun i hi => Or.inr (by rw [hi]; exact r6))) (Nat.le_refl _)
        rw [wa_eq (FRG1 v8 32)]; omega
      · rw [wa_rne (by decide), hv8.1.1.A (by decide)]; exact q3
    refine ⟨(wi_ne (by decide)).trans f9, p6, n7 + 1, q6, c6, f6, h6, n7.toNat, by rw [e7]; congr 1; omega, ?_, KPR_w0 (KPR_tr ku k9) (by decide), z4, ?_, ⟨by omega, by omega, ?_, ?_⟩, fun z => ?_, ?_⟩
    · have := ST_cl s9 (by omega)
      rwa [show o + 1 - 1 = o from by omega] at this
    · unfold DLT at z5' ⊢
      omega
    · exact RTD_mo 0 _ _ ⟨by omega, n28.2.2.2.1⟩ (by omega)
    · exact n28.2.2.2.2
    · show A (wa v8 25 n.toNat (F v8 32)) 60 σ ≤ 40
      rw [a9]
      exact hl (k9.2.2.2.2.2.2 (by rw [← z]; exact (wi_ne (by decide)).symm))
    · exact TYG_v (TYG_u ty9 mu nu) (KPR_w0 KPR_rf (by decide)) (wi_mks (by decide)) rfl
  · 
    obtain ⟨s6, -⟩ := hv6
    have n6 := s6.2.2.2.2.1
    have p6 := s6.2.2.1
    have fin : ∀ w7, FSM u0 TN σ (D + 1) w7 → OK (fun v r => EXQ u0 TN SN bw σ o p o n q c f h s wt g u v r ∨ FEQ u0 TN σ (D + 10) v r) (bnd (fm_M_node N w7 20 (w7.1 69)) (fun u8 r8 => ck (inb (I n) (ln 25)) (lt (upA u8 25 (upd (u8.2.2.1 25) n.toNat (u8.1 32))) (fun w9 => fb_M_expression_137 N S () w9 (r8))))) := fun w7 s7 => by
      have n7 := s7.2.2.2.2.1
      have p7 := s7.2.2.1
      refine k_node (k := 20) (t := F w7 69) rfl (by decide) I_F (by omega) (by omega) (fun v8 hv8 => ?_)
      have s8 := FSM_nd s7 hv8.1
      refine k_in (k := 25) (n := 16000) rfl (by decide) (by omega) (ok_lt.mpr ?_)
      rw [I_F (w := v8) (k := 32), wa_e]
      unfold fb_M_expression_137
      rw [clo1_e]
      refine ok_lt.mpr (ok_some.mpr (Or.inr ?_))
      refine FEQ_wi ⟨FSM_mo (FSM_wa s8 (by decide)) (by omega), F w7 32, rfl, Or.inr ⟨by omega, ?_, ?_⟩⟩ (by decide)
      · show F w7 32 < F v8 32; rw [hv8.1.2.1]; omega
      · rw [wa_rne (by decide)]; exact hv8.2.2.2.2.1
    exact k_unbind (m := y4) rfl ry s6.2.2.2.1 (by omega) (by omega) (by omega) (fun _ => fin v6 (FSM_mo s6 (by omega))) (fun _ w7 hw7 => fin w7 (FSM_mo (FSM_unb s6 hw7) (by omega)))
end
end
section
section
variable {α : Type} {Q : MS → α → Prop} {u0 u v v1 w x : MS} {N σ TN SN q0 q1 q2 q3 e b : Nat} {bw : Nat → Nat} {p o n q c f h s wt g lv xb xb1 xb2 k t m D d p1 n1 q1' c1 f1 h1 p2 n2 c2 f2 h2 y z j l : Int} {R R1 R2 : Nat → Prop} {r : Int32} {S : SG_M_behind}
theorem NM_dlt (tk : TKW u0 TN SN bw) (hm : NM TN bw k j l σ p o n q c f h s wt) (hd : DLT bw y z b p n q c f h p2 n2 q1' c2 f2 h2) (hz : 0 ≤ z) (hy : 0 ≤ y) (hp : p2 ≤ TN) : NM TN bw k j l σ p2 o n2 q1' c2 f2 h2 s wt := by
  have b1 : 0 ≤ p2 := by unfold NM at hm; unfold DLT at hd; omega
  have := bw_top tk (i := p2.toNat) (by omega)
  unfold NM at hm ⊢
  unfold DLT at hd
  omega
theorem DLT_tr {y2 z2 : Int} {b2 : Nat} (a : DLT bw y z b p n q c f h p1 n1 q1' c1 f1 h1) {p3 n3 q3' c3 f3 h3 : Int} (b' : DLT bw y2 z2 b2 p1 n1 q1' c1 f1 h1 p3 n3 q3' c3 f3 h3) : DLT bw (y + y2) (z + z2) (b + b2) p n q c f h p3 n3 q3' c3 f3 h3 := by
  unfold DLT at a b' ⊢
  omega
theorem DLT_mo {y2 z2 : Int} {b2 : Nat} (a : DLT bw y z b p n q c f h p1 n1 q1' c1 f1 h1) (h1' : y2 ≤ y) (h2' : z2 ≤ z) (h3' : b2 ≤ b) : DLT bw y2 z2 b2 p n q c f h p1 n1 q1' c1 f1 h1 := by
  unfold DLT at a ⊢
  omega
theorem DLT_1 (tk : TKW u0 TN SN bw) (hp : 0 ≤ p ∧ p < TN) (hm : 0 ≤ m) : DLT bw (3 - m) 1 1 p n q c f h (p + 1) (n + m) q c f h := by
  have := bw_mono tk (i := p.toNat) (m := (p + 1).toNat) (by omega) (by omega)
  unfold DLT
  omega
theorem DLT_0 : DLT bw 0 0 0 p n q c f h p n q c f h := by unfold DLT; omega
theorem NM_mo {k2 j2 l2 : Int} (hm : NM TN bw k j l σ p o n q c f h s wt) (h1 : k ≤ k2) (h2 : j2 ≤ j) (h3 : l2 ≤ l) : NM TN bw k2 j2 l2 σ p o n q c f h s wt := by
  unfold NM at hm ⊢
  omega
theorem expression_ok (tk : TKW u0 TN SN bw) (hD : 0 ≤ D ∧ D ≤ 2900) (ho : 0 ≤ o ∧ o ≤ 25) (hsim : o ≤ 24 → XSP u0 TN SN bw D 0 1 1 1 (o + 1) S.2.2.2.2.2.2.2.2.2.2.2.2.1) (hsf : XSF u0 TN D S.2.2.2.2.2.2.2.2.2.2.2.2.1) (hex : o ≤ 24 → XSP u0 TN SN bw D 3 0 0 0 (o + 1) S.2.2.2.2.2.2.2.2.2.2.2.2.2.1) (hxn : XNO S.2.2.2.2.2.2.2.2.2.2.2.2.2.1) : XSP u0 TN SN bw (D + 10) 3 0 0 0 o (fm_M_expression N S) := by
  intro u σ p n q c f h s wt g hs hf hm hl
  have hT := tk.1.1
  have fs := NM_fs hm (by omega)
  have e69 : F u 69 = p := hs.2.1.1
  have e70 : F u 70 = o := hs.2.1.2.1
  have e32 : F u 32 = n := hs.2.1.2.2.1
  have hp : 0 ≤ F u 69 ∧ F u 69 ≤ 4001 := by omega
  rw [show o - 0 = o from by omega]
  have main : OK (fun v r => EXQ u0 TN SN bw σ o p o n q c f h s wt g u v r ∨ FEQ u0 TN σ (D + 10) v r) (fb_M_expression_31 N S () u) := by
    unfold fb_M_expression_31
    refine k_opens2 hp (fun w hw => ?_)
    have sw := OPN_ST hs (by omega) hw
    have kw : KPR σ u w := OPN_KP hw
    have e69w : F w 69 = p := sw.2.1.1
    have aw : ∀ r i, A w r i = A u r i := fun r i => OPN_A hw
    have fw66 := OPN_66 hw
    have f67 := OPN_67 hf hw
    clear hw
    have t137 : ∀ v r, FEQ u0 TN σ D v r → OK (fun v r => EXQ u0 TN SN bw σ o p o n q c f h s wt g u v r ∨ FEQ u0 TN σ (D + 10) v r) (fb_M_expression_137 N S () v r) := fun v r hv => by
      unfold fb_M_expression_137
      rw [clo1_e]
      exact ok_lt.mpr (ok_some.mpr (Or.inr (FEQ_mo (FEQ_wi hv (by decide)) (by omega))))
    refine k_isWord (s := 4) rfl ⟨by decide, by decide⟩ (by omega) (fun hw4 => ?_) (fun _ => ?_)
    · 
      have tw := ST_IW sw hw4
      have ltp := tok_lt tk (by omega) (show ¬ (A u0 6 (p).toNat = 0 ∨ A u0 6 (p).toNat = 7) by omega)
      rcases f67 with ⟨f0, o1, ew⟩ | ⟨f0, o1⟩
      · have mu : mks w = mks u := by rw [ew]; exact op1_mks
        have nu : nmo σ w = nmo σ u := by unfold nmo; rw [aw]
        have lw : LGS σ w := fun z => by rw [aw]; exact hl (by rw [← fw66]; exact z)
        refine k_F (k := 73) (y := 0) rfl ⟨by decide, by decide⟩ (fun hg => ?_) (fun hg => ?_)
        · rw [sw.2.1.2.2.2.2.2.2.2.2.2.2.1] at hg
          exact catch_N tk (by omega) (by omega) (hex (by omega)) sw f0 hm hw4 lw (Or.inl hg) kw mu nu e32
        · refine k_rule (s := 7) (t := p) rfl ⟨by decide, by decide⟩ (by decide) (I_F' e69w) (by omega) sw.2.2.1.1 (fun v1 h1 h2 h3 => ?_)
          have s1 := ST_rule sw h1 h3
          refine catch_N tk (by omega) (by omega) (hex (by omega)) s1 (by rw [h1.F (by decide)]; exact f0) hm ?_ (fun z => ?_) (Or.inr h2) (KPR_rule kw h1 h2) ((fr_mks h1 (by decide)).trans mu) ?_ e32
          · have := s1.2.1.1
            unfold IW
            rw [this, ST_A s1 (by decide), ST_A s1 (by decide)]
            exact tw
          · rw [h1.A (by intro z; cases z)]; exact lw (by rw [← z]; exact (h1.F (by decide)).symm)
          · unfold nmo; rw [h1.A (by intro z; cases z)]; exact nu
      · have fsm : FSM u0 TN σ D w := FSM_of sw (by omega) (by omega) fs.1 f0
        refine k_F (k := 73) (y := 0) rfl ⟨by decide, by decide⟩ (fun hg => ?_) (fun hg => ?_)
        · exact ok_mono (catch_F hT (by omega) (by omega) hxn fsm (by omega)) (fun _ _ => Or.inr)
        · refine k_rule (s := 7) (t := p) rfl ⟨by decide, by decide⟩ (by decide) (I_F' e69w) (by omega) sw.2.2.1.1 (fun v1 h1 h2 h3 => ?_)
          exact ok_mono (catch_F hT (by omega) (by omega) hxn (FSM_rule fsm h1 h3) (by rw [h1.F (by decide)]; omega)) (fun _ _ => Or.inr)
    · rcases f67 with ⟨f0, o1, ew⟩ | ⟨f0, o1⟩
      · have lw : LGS σ w := fun z => by rw [aw]; exact hl (by rw [← fw66]; exact z)
        refine ok_bnd.mpr (ok_mono (hsim (by omega) w σ _ _ _ _ _ _ _ _ _ sw f0 (by unfold NM at hm ⊢; omega) lw) (fun v r hv => ?_))
        rcases hv with hv | hv
        · unfold fb_M_expression_137
          rw [clo1_e]
          rw [show o + 1 - 1 = o from by omega, ew] at hv
          exact ok_lt.mpr (ok_some.mpr (Or.inl (EXQ_wrap ho hv)))
        · exact t137 v r hv
      · refine ok_bnd.mpr (ok_mono (hsf w σ _ _ _ _ _ _ _ _ _ _ sw f0 (by omega) (by omega) fs.1 (by unfold NM at hm; omega)) (fun v r hv => t137 v r hv))
  unfold fm_M_expression fb_M_expression_0
  refine k_F (y := 0) rfl ⟨by decide, by decide⟩ (fun _ => ?_) (fun z => absurd hf z)
  refine k_begins hp main ?_
  refine k_isWord (s := 4) rfl ⟨by decide, by decide⟩ hp (fun _ => main) (fun _ => ?_)
  exact k_wrong (s := 2) rfl ⟨by decide, by decide⟩ (by decide) hp (fun v1 h1 h2 => ok_some.mpr (Or.inr (FEQ_none (FSM_of (ST_67 hs h1) (by omega) (by omega) fs.1 h2))))
theorem behind_ok (tk : TKW u0 TN SN bw) (hD : 0 ≤ D ∧ D ≤ 2900) (ho : 0 ≤ o ∧ o ≤ 25) (hsim : o ≤ 24 → XSP u0 TN SN bw D 0 1 1 1 (o + 1) S.2.2.2.2.2.2.2.2.2.2.2.2.1) (hsf : XSF u0 TN D S.2.2.2.2.2.2.2.2.2.2.2.2.1) : XSP u0 TN SN bw (D + 10) 3 0 0 0 o (fm_M_behind N S) := by
  intro u σ p n q c f h s wt g hs hf hm hl
  have hT := tk.1.1
  have fs := NM_fs hm (by omega)
  have e69 : F u 69 = p := hs.2.1.1
  have e70 : F u 70 = o := hs.2.1.2.1
  have hp : 0 ≤ F u 69 ∧ F u 69 ≤ 4001 := by omega
  rw [show o - 0 = o from by omega]
  unfold fm_M_behind fb_M_behind_0
  refine k_F (y := 0) rfl ⟨by decide, by decide⟩ (fun _ => ?_) (fun z => absurd hf z)
  refine k_begins hp ?_ (k_wrong (s := 2) rfl ⟨by decide, by decide⟩ (by decide) hp (fun v1 h1 h2 => ok_some.mpr (Or.inr (FEQ_none (FSM_of (ST_67 hs h1) (by omega) (by omega) fs.1 h2)))))
  refine k_opens2 hp (fun w hw => ?_)
  have sw := OPN_ST hs (by omega) hw
  have aw : ∀ r i, A w r i = A u r i := fun r i => OPN_A hw
  have fw66 := OPN_66 hw
  have f67 := OPN_67 hf hw
  clear hw
  rcases f67 with ⟨f0, o1, ew⟩ | ⟨f0, o1⟩
  · have lw : LGS σ w := fun z => by rw [aw]; exact hl (by rw [← fw66]; exact z)
    refine ok_bnd.mpr (ok_mono (hsim (by omega) w σ _ _ _ _ _ _ _ _ _ sw f0 (by unfold NM at hm ⊢; omega) lw) (fun v r hv => ?_))
    rw [clo1_e]
    rcases hv with hv | hv
    · rw [show o + 1 - 1 = o from by omega, ew] at hv
      exact ok_lt.mpr (ok_some.mpr (Or.inl (EXQ_wrap ho hv)))
    · exact ok_lt.mpr (ok_some.mpr (Or.inr (FEQ_mo (FEQ_wi hv (by decide)) (by omega))))
  · refine ok_bnd.mpr (ok_mono (hsf w σ _ _ _ _ _ _ _ _ _ _ sw f0 (by omega) (by omega) fs.1 (by unfold NM at hm; omega)) (fun v r hv => ?_))
    rw [clo1_e]
    exact ok_lt.mpr (ok_some.mpr (Or.inr (FEQ_mo (FEQ_wi hv (by decide)) (by omega))))
theorem none_F {fb : Option (MS × Int32)} (hf : F u 67 ≠ 0) : br (decide (u.1 67 = 0)) fb (some (u, (-1 : Int32))) = some (u, -1) := by
  rw [I_F (k := 67), lit0q, decE (F_r u 67).1 (F_r u 67).2 (by omega) (by omega), decide_eq_false hf, br_fq]
theorem expression_F : XNO (fm_M_expression N S) := fun u hf => by
  unfold fm_M_expression fb_M_expression_0
  exact none_F hf
theorem behind_F : XNO (fm_M_behind N S) := fun u hf => by
  unfold fm_M_behind fb_M_behind_0
  exact none_F hf
theorem body_F : XNO (fm_M_body N S) := fun u hf => by
  unfold fm_M_body fb_M_body_0
  exact none_F hf
theorem primary_F : XNO (fm_M_primary N S) := fun u hf => by
  unfold fm_M_primary fb_M_primary_0
  exact none_F hf
def XSB (u0 : MS) (TN SN : Nat) (bw : Nat → Nat) (D o : Int) (fn : MS → Option (MS × Int32)) : Prop := ∀ (u : MS) (σ : Nat) (p n q c f h s wt : Int), ST u0 σ p o n q c f h s wt 0 u → F u 67 = 0 → NM TN bw 3 0 0 σ p o n q c f h s wt → LGS σ u → OK (fun v r => EXQ u0 TN SN bw σ (o + 1) p o n q c f h s wt 0 u v r ∨ FEQ u0 TN σ D v r) (fn u)
theorem body_loop (tk : TKW u0 TN SN bw) (hD : 0 ≤ D ∧ D ≤ 2900) (ho : 0 ≤ o ∧ o ≤ 24) (hex : XSP u0 TN SN bw D 3 0 0 0 (o + 1) S.2.2.2.2.2.2.2.2.2.2.2.2.2.1) (hm : NM TN bw 3 0 0 σ p (o + 1) n q c f h s wt) : ∀ (i : Nat) (v : MS) (r : Int32), (EXQ u0 TN SN bw σ (o + 1) p (o + 1) n q c f h s wt 0 u v r ∧ 4001 - F v 69 < i) ∨ (FEQ u0 TN σ D v r ∧ 0 < i) → OK (fun w r => EXQ u0 TN SN bw σ (o + 1) p (o + 1) n q c f h s wt 0 u (wi w 70 (o + 1)) r ∧ w = clo1 (wi w 70 (o + 1)) ∨ FEQ u0 TN σ (D + 1) w r) (gg_M_body N S i v r) := by
  have hT := tk.1.1
  intro i
  induction i with
  | zero =>
    intro v r hv
    rcases hv with ⟨⟨-, p2, n2, q2, c2, f2, h2, e, -, hs, -, hp, -⟩, z⟩ | ⟨-, z⟩
    · have : F v 69 = p2 := hs.2.1.1
      omega
    · exact absurd z (Nat.lt_irrefl 0)
  | succ i ih =>
    intro v r hv
    show OK _ (fb_M_body_40 N S (gg_M_body N S i) v r)
    unfold fb_M_body_40
    rcases hv with ⟨hv, hi⟩ | ⟨hv, hi⟩
    · obtain ⟨b0, p2, n2, q2, c2, f2, h2, e, b1, b2, b3, b4, b5, b6, b7, b8⟩ := id hv
      have e69 : F v 69 = p2 := b2.2.1.1
      have m2 := NM_dlt tk hm b5 (by omega) (by omega) b4
      have fs := NM_fs m2 (by omega)
      refine k_takeSign (s := 6) rfl ⟨by decide, by decide⟩ (by omega) (fun _ z => ?_) (fun _ => ?_)
      · rw [br10]
        have z2 := ST_IS b2 z
        have ltp := tok_lt tk (by omega) (show ¬ (A u0 6 (p2).toNat = 0 ∨ A u0 6 (p2).toNat = 7) by omega)
        have s1 := ST_nx b2 (by omega)
        have e1 : F (nx1 v) 69 = p2 + 1 := s1.2.1.1
        have n1 : F (nx1 v) 32 = n2 := s1.2.1.2.2.1
        refine k_node (k := 17) (t := F (nx1 v) 69) rfl (by decide) I_F (by omega) (by omega) (fun v3 hv3 => ?_)
        have s3 := ST_nd s1 (v := v3) (k := 17) (t := F (nx1 v) 69) hv3.1 (by omega) (by omega) (fun z => by omega)
        have k1 : KPR σ v (nx1 v) := KPR_w0 KPR_rf (by decide)
        have k3 : KPR σ v v3 := KPR_nd k1 hv3.1 (by omega)
        have f3 : F v3 67 = 0 := by rw [hv3.1.1.F (by decide)]; exact (wi_ne (by decide)).trans b0
        have l3 : LGS σ v3 := fun z => by rw [hv3.1.1.A (by decide)]; exact b7 (k3.2.2.2.2.2.2 z)
        have d3 := DLT_1 (n := n2) (q := q2) (c := c2) (f := f2) (h := h2) (m := 1) tk ⟨by omega, ltp⟩ (by omega)
        have t1 : TYG TN SN σ 0 (o + 1) (p2 - p + 1) u (nx1 v) 0 1 (fun i => i = e) := TYG_v b8 k1 (wi_mks (by decide)) rfl
        have t3 : TYG TN SN σ 0 (o + 1) (p2 - p + 1) (nx1 v) v3 1 0 (fun i => i = (F (nx1 v) 32).toNat) := TYG_nd (xx := 1) hv3.1 (by omega) s1.2.2.2.1 (fun z => b7 (by rw [← z]; exact (wi_ne (by decide)).symm)) (fun mm X Y y1 y2 => s17 (ONE_nd hv3.1 (by omega)) (NEWN_of hv3 (by omega)) ⟨Nat.le_refl _, y1, y2⟩) (by unfold DLT at b5; omega) (by omega)
        have t4 : TYG TN SN σ 0 (o + 1) (p2 - p + 1) u v3 0 0 (fun _ => False) := by
          refine TYG_ro (TYG_app (e := 0) t1 (KPR_nd KPR_rf hv3.1 (by omega)) t3 rfl (Int.le_refl _) (by omega)) (fun n hn => hn.elim) (fun i hi => Or.inr ?_)
          rcases hi with hi | hi
          · rw [hi, hv3.1.2.2.2.2 29 e (by omega)]; exact b6.2.2.2
          · rw [hi]; exact hv3.2.2.2.2.2.1
        have dl3 := DLT_tr b5 d3
        have m3 := NM_dlt tk hm dl3 (by omega) (by omega) (by omega)
        refine ok_bnd.mpr (ok_mono (hex v3 σ _ _ _ _ _ _ _ _ _ s3 f3 m3 l3) (fun w r2 hw => ?_))
        refine ih w r2 ?_
        rw [show o + 1 - 0 = o + 1 from by omega] at hw
        rcases hw with ⟨g0, p5, n5, q5, c5, f5, h5, e5, g1, g2, g3, g4, g5, g6, g7, g8⟩ | hw
        · refine Or.inl ⟨⟨g0, p5, n5, q5, c5, f5, h5, e5, g1, g2, KPR_tr b3 (KPR_tr k3 g3), g4, DLT_mo (DLT_tr dl3 g5) (by omega) (by omega) (by omega), ⟨by unfold DLT at dl3; omega, g6.2.1, RTD_dn (by unfold DLT at dl3; omega) _ _ g6.2.2.1, g6.2.2.2⟩, g7, ?_⟩, ?_⟩
          · refine TYG_ro (TYG_app (e := 0) t4 g3 g8 rfl (by unfold DLT at g5; omega) (by unfold DLT at dl3 b5; omega)) (fun n hn => Or.inr hn) (fun n hn => ?_)
            rcases hn with hn | hn
            · exact hn.elim
            · exact Or.inl hn
          · have : F w 69 = p5 := g2.2.1.1
            unfold DLT at g5; omega
        · exact Or.inr ⟨hw, by omega⟩
      · rw [br00]
        rw [clo1_e]
        refine ok_lt.mpr (ok_some.mpr (Or.inl ?_))
        have e70 : F v 70 = o + 1 := b2.2.1.2.1
        have wv : wi (clo1 v) 70 (o + 1) = v := by
          unfold clo1 wi upI
          refine Prod.ext (funext fun j => ?_) rfl
          by_cases z : j = 70
          · simp only [if_pos z]; rw [z, ← e70]; exact I_F.symm
          · simp only [if_neg z]
        rw [wv]
        exact ⟨hv, rfl⟩
    · have fp := FSM_p hv.1 hT
      refine k_takeSign (s := 6) rfl ⟨by decide, by decide⟩ fp (fun z => absurd z hv.1.2.1) (fun _ => ?_)
      rw [br00, clo1_e]
      exact ok_lt.mpr (ok_some.mpr (Or.inr (FEQ_mo (FEQ_wi hv (by decide)) (by omega))))
theorem body_ok (tk : TKW u0 TN SN bw) (hN : 5000 ≤ N) (hD : 0 ≤ D ∧ D ≤ 2900) (ho : 0 ≤ o ∧ o ≤ 25) (hex : o ≤ 24 → XSP u0 TN SN bw D 3 0 0 0 (o + 1) S.2.2.2.2.2.2.2.2.2.2.2.2.2.1) (hxn : XNO S.2.2.2.2.2.2.2.2.2.2.2.2.2.1) : XSB u0 TN SN bw (D + 10) o (fm_M_body N S) := by
  intro u σ p n q c f h s wt hs hf hm hl
  have hT := tk.1.1
  have fs := NM_fs hm (by omega)
  have e69 : F u 69 = p := hs.2.1.1
  have e70 : F u 70 = o := hs.2.1.2.1
  have hp : 0 ≤ F u 69 ∧ F u 69 ≤ 4001 := by omega
  have main : OK (fun v r => EXQ u0 TN SN bw σ (o + 1) p o n q c f h s wt 0 u v r ∨ FEQ u0 TN σ (D + 10) v r) (fb_M_body_31 N S (gg_M_body N S N) u) := by
    unfold fb_M_body_31
    refine k_opens2 hp (fun w hw => ?_)
    have sw := OPN_ST hs (by omega) hw
    have aw : ∀ r i, A w r i = A u r i := fun r i => OPN_A hw
    have fw66 := OPN_66 hw
    have f67 := OPN_67 hf hw
    clear hw
    rcases f67 with ⟨f0, o1, ew⟩ | ⟨f0, o1⟩
    · have lw : LGS σ w := fun z => by rw [aw]; exact hl (by rw [← fw66]; exact z)
      have mw : NM TN bw 3 0 0 σ p (o + 1) n q c f h s wt := by unfold NM at hm ⊢; omega
      refine ok_bnd.mpr (ok_mono (hex (by omega) w σ _ _ _ _ _ _ _ _ _ sw f0 mw lw) (fun v r hv => ?_))
      rw [show o + 1 - 0 = o + 1 from by omega] at hv
      refine ok_mono (body_loop (u := w) tk hD ⟨ho.1, by omega⟩ (hex (by omega)) mw N v r ?_) (fun w2 r2 hw2 => ?_)
      · rcases hv with hv | hv
        · refine Or.inl ⟨hv, ?_⟩
          obtain ⟨-, p2, n2, q2, c2, f2, h2, e, -, hs2, -, hp2, hd2, -⟩ := hv
          have : F v 69 = p2 := hs2.2.1.1
          unfold DLT at hd2
          omega
        · exact Or.inr ⟨hv, by omega⟩
      · rcases hw2 with ⟨hw2, he⟩ | hw2
        · rw [he]
          rw [ew] at hw2
          exact Or.inl (EXQ_wrap ho hw2)
        · exact Or.inr (FEQ_mo hw2 (by omega))
    · rw [hxn w f0, bnd_so]
      obtain ⟨N', rfl⟩ : ∃ N', N = N' + 1 := ⟨N - 1, by omega⟩
      have fsm : FSM u0 TN σ D w := FSM_of sw (by omega) (by omega) fs.1 f0
      show OK _ (fb_M_body_40 (N' + 1) S (gg_M_body (N' + 1) S N') w (-1))
      unfold fb_M_body_40
      refine k_takeSign (s := 6) rfl ⟨by decide, by decide⟩ (FSM_p fsm hT) (fun z => absurd z fsm.2.1) (fun _ => ?_)
      rw [br00, clo1_e]
      exact ok_lt.mpr (ok_some.mpr (Or.inr (FEQ_mo (FEQ_wi (FEQ_none fsm) (by decide)) (by omega))))
  unfold fm_M_body fb_M_body_0
  refine k_F (y := 0) rfl ⟨by decide, by decide⟩ (fun _ => ?_) (fun z => absurd hf z)
  refine k_begins hp main ?_
  refine k_isWord (s := 4) rfl ⟨by decide, by decide⟩ hp (fun _ => main) (fun _ => ?_)
  exact k_wrong (s := 2) rfl ⟨by decide, by decide⟩ (by decide) hp (fun v1 h1 h2 => ok_some.mpr (Or.inr (FEQ_none (FSM_of (ST_67 hs h1) (by omega) (by omega) fs.1 h2))))
end
end
section
section
variable {α : Type} {Q : MS → α → Prop} {u0 u v v1 w x : MS} {N σ TN SN q0 q1 q2 q3 e : Nat} {bw : Nat → Nat} {p o n q c f h s wt g lv xb xb1 xb2 k t m D d p1 n1 q1' c1 f1 h1 p2 n2 c2 f2 h2 y z l : Int} {R R1 R2 : Nat → Prop} {r y1 y2 y3 : Int32} {S : SG_M_behind} {a : Nat → Nat} {j : Nat}
theorem SEQ_nil {gg q m lo mm X Y sh : Nat} (h : lo ≤ m ∧ m ≤ mm ∧ q ≤ X) : SEQ w SN gg a a q q m m lo mm X Y sh (fun _ => False) := by
  refine ⟨⟨fun i => Nat.le_refl _, fun _ => rfl, h.1, h.1, h.2.1, h.2.1, h.2.2, h.2.2, fun n hn => hn.elim⟩, fun Z hh rk z1 z2 z3 z4 z5 z6 z7 z8 z9 => ?_⟩
  exact ⟨tyc Z (hh + q) m rk, fun _ _ => 0, tyc_e, tyc_e, tyc_r (i := 0), fun z => by omega, by rw [show tR (tyc Z (hh + q) m rk) (a 0) = rk from tyc_r (i := 0)]; omega, fun n hn => hn.elim, fun n h1 h2 => by omega, fun n h1 h2 => by omega, fun n h1 h2 => by omega⟩
theorem TYG_nil (hs : SCP (F u0 17) σ v) (hl : LGS σ v) (h1 : mks v = mks u) (h2 : nmo σ v = nmo σ u) (hx : 0 ≤ xb) (hlv : lv ≤ 25) : TYG TN SN σ g lv xb u v 0 0 (fun _ => False) := by
  intro z1 z2 z3
  have s1 := (hs σ (Nat.le_refl σ)).1
  have := hl z2
  refine ⟨nmo σ v, 0, 0, ?_, by unfold nmo; omega, by unfold nmo; omega, by omega, by omega⟩
  rw [h1, h2]
  exact SEQ_nil ⟨Nat.le_refl _, Nat.le_refl _, Nat.le_refl _⟩
def ARL (u0 : MS) (TN SN : Nat) (bw : Nat → Nat) (σ : Nat) (y : Int) (j : Nat) (p o n q c f h s wt g : Int) (u v : MS) : Prop := F v 67 = 0 ∧ ∃ p1 n1 q1 c1 f1 h1 : Int, ST u0 σ p1 o n1 q1 c1 f1 h1 s wt g v ∧ KPR σ u v ∧ p1 ≤ TN ∧ DLT bw 3 y 1 p n q c f h p1 n1 q1 c1 f1 h1 ∧ LGS σ v ∧ TYG TN SN σ g o (p1 - p) u v 0 j (fun _ => False)
theorem ARL_0 (tk : TKW u0 TN SN bw) (hs : ST u0 σ p o n q c f h s wt g u) (hf : F u 67 = 0) (hl : LGS σ u) (hp : 0 ≤ p ∧ p < TN) (ho : o ≤ 25) : ARL u0 TN SN bw σ 1 0 p o n q c f h s wt g u (nx1 u) := by
  have hT := tk.1.1
  have d := DLT_1 (n := n) (q := q) (c := c) (f := f) (h := h) (m := 0) tk hp (by omega)
  have l1 : LGS σ (nx1 u) := fun z => hl (by rw [← z]; exact (wi_ne (by decide)).symm)
  refine ⟨(wi_ne (by decide)).trans hf, p + 1, n, q, c, f, h, ST_nx hs (by omega), KPR_w0 KPR_rf (by decide), by omega, ?_, l1, TYG_nil (ST_nx hs (by omega)).2.2.2.1 l1 (wi_mks (by decide)) rfl (by omega) ho⟩
  unfold DLT at d ⊢
  omega
theorem ARL_add (a : ARL u0 TN SN bw σ (1 + 2 * j) j p o n q c f h s wt g u v) (hx : XSP u0 TN SN bw D 3 0 0 0 o S.2.2.2.2.2.2.2.2.2.2.2.2.2.1) (tk : TKW u0 TN SN bw) (hm : NM TN bw 3 0 0 σ p o n q c f h s wt) : OK (fun w r => ARL u0 TN SN bw σ (2 * (j + 1 : Nat)) (j + 1) p o n q c f h s wt g u w ∨ FSM u0 TN σ D w) (S.2.2.2.2.2.2.2.2.2.2.2.2.2.1 v) := by
  obtain ⟨a0, p1, n1, q1, c1, f1, h1, a1, a2, a3, a4, a5, a6⟩ := a
  have m1 := NM_dlt tk hm a4 (by omega) (by omega) a3
  refine ok_mono (hx v σ _ _ _ _ _ _ _ _ _ a1 a0 m1 a5) (fun w r hw => ?_)
  rw [show o - 0 = o from by omega] at hw
  rcases hw with ⟨g0, p5, n5, q5, c5, f5, h5, e5, g1, g2, g3, g4, g5, g6, g7, g8⟩ | hw
  · refine Or.inl ⟨g0, p5, n5, q5, c5, f5, h5, g2, KPR_tr a2 g3, g4, DLT_mo (DLT_tr a4 g5) (by omega) (by omega) (by omega), g7, ?_⟩
    have t := TYG_app (xb := p5 - p) (e := j) a6 g3 g8 (by omega) (by unfold DLT at g5; omega) (by unfold DLT at a4; omega)
    rw [Nat.add_comm 1 j] at t
    refine TYG_ro t (fun n hn => hn.elim) (fun n hn => Or.inr ?_)
    rcases hn with hn | hn
    · exact hn.elim
    · rw [hn]; exact g6.2.2.2
  · exact Or.inr hw.1
theorem ARL_s {y2 : Int} (a : ARL u0 TN SN bw σ y j p o n q c f h s wt g u v) (tk : TKW u0 TN SN bw) (hz : IS v z) (hy : y2 ≤ y + 1) (hp : 0 ≤ p) (hy0 : 0 ≤ y) : ARL u0 TN SN bw σ y2 j p o n q c f h s wt g u (nx1 v) ∧ ∃ p1 n1 q1 c1 f1 h1 : Int, ST u0 σ (p1 + 1) o n1 q1 c1 f1 h1 s wt g (nx1 v) ∧ p1 < TN ∧ DLT bw 6 (y + 1) 2 p n q c f h (p1 + 1) n1 q1 c1 f1 h1 ∧ KPR σ u (nx1 v) ∧ LGS σ (nx1 v) ∧ TYG TN SN σ g o (p1 - p) u (nx1 v) 0 j (fun _ => False) := by
  obtain ⟨a0, p1, n1, q1, c1, f1, h1, a1, a2, a3, a4, a5, a6⟩ := a
  have hT := tk.1.1
  have z2 := ST_IS a1 hz
  have p0 : 0 ≤ p1 := by unfold DLT at a4; omega
  have ltp := tok_lt tk ⟨p0, a3⟩ (show ¬ (A u0 6 (p1).toNat = 0 ∨ A u0 6 (p1).toNat = 7) by omega)
  have d := DLT_1 (n := n1) (q := q1) (c := c1) (f := f1) (h := h1) (m := 0) tk ⟨p0, ltp⟩ (by omega)
  have l1 : LGS σ (nx1 v) := fun z => a5 (by rw [← z]; exact (wi_ne (by decide)).symm)
  have k1 : KPR σ v (nx1 v) := KPR_w0 KPR_rf (by decide)
  have t1 : TYG TN SN σ g o (p1 - p) u (nx1 v) 0 j (fun _ => False) := TYG_v a6 k1 (wi_mks (by decide)) rfl
  have dd := DLT_tr a4 d
  rw [show n1 + 0 = n1 by omega] at dd
  exact ⟨⟨(wi_ne (by decide)).trans a0, p1 + 1, n1, q1, c1, f1, h1, ST_nx a1 (by omega), KPR_tr a2 k1, by omega, DLT_mo dd (by omega) (by omega) (by omega), l1, TYG_mo t1 (by omega) (Int.le_refl _)⟩, p1, n1, q1, c1, f1, h1, ST_nx a1 (by omega), ltp, DLT_mo dd (by omega) (by omega) (by omega), KPR_tr a2 k1, l1, t1⟩
theorem ARL_p (a : ARL u0 TN SN bw σ y j p o n q c f h s wt g u v) (tk : TKW u0 TN SN bw) (hp : 0 ≤ p) (hy : 0 ≤ y) : 0 ≤ F v 69 ∧ F v 69 ≤ TN := by
  obtain ⟨a0, p1, n1, q1, c1, f1, h1, a1, a2, a3, a4, a5, a6⟩ := a
  have : F v 69 = p1 := a1.2.1.1
  unfold DLT at a4
  omega
theorem ARL_F (a : ARL u0 TN SN bw σ y j p o n q c f h s wt g u v) (tk : TKW u0 TN SN bw) (hm : NM TN bw 3 0 0 σ p o n q c f h s wt) (hy : 0 ≤ y) (hd : 0 ≤ d) (b : FR [67, 68] [] [] [] v w) (hw : F w 67 ≠ 0) : FSM u0 TN σ d w := by
  obtain ⟨a0, p1, n1, q1, c1, f1, h1, a1, a2, a3, a4, a5, a6⟩ := a
  have fs := NM_fs (NM_dlt tk hm a4 (by omega) (by omega) a3) (by omega)
  exact FSM_of (ST_67 a1 b) (by omega) (by omega) fs.1 hw
def ARQ (u0 : MS) (TN SN : Nat) (bw : Nat → Nat) (σ : Nat) (p o n q c f h s wt g : Int) (u v : MS) : Prop := F v 67 = 0 ∧ ∃ (j : Nat) (p1 n1 q1 c1 f1 h1 : Int), (F v 84 = j ∧ j ≤ 6) ∧ ST u0 σ p1 o n1 q1 c1 f1 h1 s wt g v ∧ KPR σ u v ∧ p1 ≤ TN ∧ DLT bw 6 2 2 p n q c f h p1 n1 q1 c1 f1 h1 ∧ 2 * (j : Int) ≤ p1 - p ∧ LGS σ v ∧ TYG TN SN σ g o (p1 - p - 1) u v 0 j (fun _ => False)
def XAR (u0 : MS) (TN SN : Nat) (bw : Nat → Nat) (D o : Int) (fn : MS → Option (MS × Unit)) : Prop := ∀ (u : MS) (σ : Nat) (p n q c f h s wt g : Int), ST u0 σ p o n q c f h s wt g u → F u 67 = 0 → NM TN bw 3 0 0 σ p o n q c f h s wt → LGS σ u → OK (fun v _ => ARQ u0 TN SN bw σ p o n q c f h s wt g u v ∨ FSM u0 TN σ D v) (fn u)
theorem args73_F {G : MS → Int32 → Int32 → Option (MS × Unit)} (hT : TN ≤ 4000) (hs : FSM u0 TN σ D v) : OK (fun v _ => FSM u0 TN σ D v) (fb_M_arguments_73 N S G v y1) := by
  unfold fb_M_arguments_73
  refine k_needSign (s := 1) rfl ⟨by decide, by decide⟩ (FSM_p hs hT) (fun z => absurd z hs.2.1) (fun v1 h1 h2 => ok_lt.mpr (ok_some.mpr ?_))
  rw [I_of y1, wi_e]
  exact FSM_wi (FSM_67 hs h1 h2) (by decide)
theorem args73_N {G : MS → Int32 → Int32 → Option (MS × Unit)} (tk : TKW u0 TN SN bw) (hD : 0 ≤ D) (hm : NM TN bw 3 0 0 σ p o n q c f h s wt) (a : ARL u0 TN SN bw σ y j p o n q c f h s wt g u v) (hy : 1 ≤ y ∧ 2 * j ≤ y) (hj : j ≤ 6) : OK (fun v _ => ARQ u0 TN SN bw σ p o n q c f h s wt g u v ∨ FSM u0 TN σ D v) (fb_M_arguments_73 N S G v (I (j : Int))) := by
  have hT := tk.1.1
  have fs := NM_fs hm (by omega)
  have pv := ARL_p a tk (by omega) (by omega)
  unfold fb_M_arguments_73
  refine k_needSign (s := 1) rfl ⟨by decide, by decide⟩ (by omega) (fun _ z => ok_lt.mpr (ok_some.mpr (Or.inl ?_))) (fun v1 h1 h2 => ok_lt.mpr (ok_some.mpr (Or.inr ?_)))
  · obtain ⟨b, p1, n1, q1, c1, f1, h1, s1, s2, s3, s4, s5, s6⟩ := ARL_s (y2 := y + 1) a tk z (by omega) (by omega) (by omega)
    rw [wi_e]
    have k8 : KPR σ (nx1 v) (wi (nx1 v) 84 (j : Int)) := KPR_w0 KPR_rf (by decide)
    refine ⟨(wi_ne (by decide)).trans b.1, j, p1 + 1, n1, q1, c1, f1, h1, ⟨wi_eq ⟨by omega, by omega⟩, hj⟩, ST_84 s1, KPR_tr s4 k8, by omega, DLT_mo s3 (by omega) (by omega) (by omega), by unfold DLT at s3; omega, fun z => s5 (by rw [← z]; exact (wi_ne (by decide)).symm), ?_⟩
    rw [show p1 + 1 - p - 1 = p1 - p from by omega]
    exact TYG_v s6 k8 (wi_mks (by decide)) rfl
  · rw [wi_e]
    exact FSM_wi (ARL_F a tk hm (by omega) hD h1 h2) (by decide)
theorem args_loop (tk : TKW u0 TN SN bw) (hD : 0 ≤ D) (hx : XSP u0 TN SN bw D 3 0 0 0 o S.2.2.2.2.2.2.2.2.2.2.2.2.2.1) (hm : NM TN bw 3 0 0 σ p o n q c f h s wt) : ∀ (m j : Nat) (v : MS), ARL u0 TN SN bw σ (1 + 2 * j) j p o n q c f h s wt g u v → j ≤ 5 → 8 - j < m → OK (fun v _ => ARQ u0 TN SN bw σ p o n q c f h s wt g u v ∨ FSM u0 TN σ D v) (gg_M_arguments N S m v (I (j : Int)) 1) := by
  have hT := tk.1.1
  have fs := NM_fs hm (by omega)
  intro m
  induction m with
  | zero => intro j v _ _ z; exact absurd z (Nat.not_lt_zero _)
  | succ m ih =>
    intro j v a hj hm2
    obtain ⟨m', rfl⟩ : ∃ m', m = m' + 1 := ⟨m - 1, by omega⟩
    show OK _ (fb_M_arguments_24 N S (gg_M_arguments N S (m' + 1)) v (I (j : Int)) 1)
    unfold fb_M_arguments_24
    rw [br10, I_F' a.1, show decide (I 0 = (0 : Int32)) = true from rfl, br_tq]
    refine ok_bnd.mpr (ok_mono (ARL_add a hx tk hm) (fun w r hw => ?_))
    rw [lit1q, I_add, show (j : Int) + 1 = ((j + 1 : Nat) : Int) from by omega, show (6 : Int32) = I 6 from rfl]
    have goF : ∀ w, FSM u0 TN σ D w → OK (fun v _ => ARQ u0 TN SN bw σ p o n q c f h s wt g u v ∨ FSM u0 TN σ D v) (fb_M_arguments_63 N S (gg_M_arguments N S (m' + 1)) w (I ((j + 1 : Nat) : Int))) := fun w hw => by
      unfold fb_M_arguments_63
      refine k_takeSign (s := 6) rfl ⟨by decide, by decide⟩ (FSM_p hw hT) (fun z => absurd z hw.2.1) (fun _ => ?_)
      show OK _ (fb_M_arguments_24 N S (gg_M_arguments N S m') w (I ((j + 1 : Nat) : Int)) 0)
      unfold fb_M_arguments_24
      rw [br00]
      exact ok_mono (args73_F hT hw) (fun _ _ => Or.inr)
    rcases hw with hw | hw
    · have pv := ARL_p hw tk (by omega) (by omega)
      have go : (j + 1 ≤ 5 ∨ ¬ IS w 6) → OK (fun v _ => ARQ u0 TN SN bw σ p o n q c f h s wt g u v ∨ FSM u0 TN σ D v) (fb_M_arguments_63 N S (gg_M_arguments N S (m' + 1)) w (I ((j + 1 : Nat) : Int))) := fun hz => by
        unfold fb_M_arguments_63
        refine k_takeSign (s := 6) rfl ⟨by decide, by decide⟩ (by omega) (fun _ z => ?_) (fun _ => ?_)
        · have hj5 : j + 1 ≤ 5 := hz.resolve_right (fun y => y z)
          have b := (ARL_s (y2 := 1 + 2 * (j + 1 : Nat)) hw tk z (by omega) (by omega) (by omega)).1
          exact ih (j + 1) (nx1 w) b hj5 (by omega)
        · show OK _ (fb_M_arguments_24 N S (gg_M_arguments N S m') w (I ((j + 1 : Nat) : Int)) 0)
          unfold fb_M_arguments_24
          rw [br00]
          exact args73_N tk hD hm hw (by omega) (by omega)
      refine k_eq ⟨by omega, by omega⟩ ⟨by decide, by decide⟩ (fun e => ?_) (fun e => go (Or.inl (by omega)))
      refine k_isSign (s := 6) rfl ⟨by decide, by decide⟩ (by omega) (fun z => ?_) (fun z => go (Or.inr z))
      exact k_wrong (s := 2) rfl ⟨by decide, by decide⟩ (by decide) (by omega) (fun v1 h1 h2 => goF v1 (ARL_F hw tk hm (by omega) hD h1 h2))
    · refine k_eq ⟨by omega, by omega⟩ ⟨by decide, by decide⟩ (fun e => ?_) (fun e => goF w hw)
      refine k_isSign (s := 6) rfl ⟨by decide, by decide⟩ (FSM_p hw hT) (fun z => ?_) (fun z => goF w hw)
      exact k_wrong (s := 2) rfl ⟨by decide, by decide⟩ (by decide) (FSM_p hw hT) (fun v1 h1 h2 => goF v1 (FSM_67 hw h1 h2))
theorem arguments_ok (tk : TKW u0 TN SN bw) (hN : 5000 ≤ N) (hD : 0 ≤ D) (ho : o ≤ 25) (hx : XSP u0 TN SN bw D 3 0 0 0 o S.2.2.2.2.2.2.2.2.2.2.2.2.2.1) : XAR u0 TN SN bw (D + 10) o (fm_M_arguments N S) := by
  intro u σ p n q c f h s wt g hs hf hm hl
  have hT := tk.1.1
  have fs := NM_fs hm (by omega)
  have e69 : F u 69 = p := hs.2.1.1
  unfold fm_M_arguments fb_M_arguments_0
  have up : ∀ (x : Option (MS × Unit)), OK (fun v _ => ARQ u0 TN SN bw σ p o n q c f h s wt g u v ∨ FSM u0 TN σ D v) x → OK (fun v _ => ARQ u0 TN SN bw σ p o n q c f h s wt g u v ∨ FSM u0 TN σ (D + 10) v) x := fun x hx => ok_mono hx (fun _ _ y => y.imp id (fun z => FSM_mo z (by omega)))
  refine up _ (k_needSign (s := 0) rfl ⟨by decide, by decide⟩ (by omega) (fun _ z => ?_) (fun v1 h1 h2 => ?_))
  · have z2 := ST_IS hs z
    have ltp := tok_lt tk (by omega) (show ¬ (A u0 6 (p).toNat = 0 ∨ A u0 6 (p).toNat = 7) by omega)
    have a0 : ARL u0 TN SN bw σ 1 0 p o n q c f h s wt g u (nx1 u) := ARL_0 tk hs hf hl ⟨by omega, ltp⟩ ho
    have pv := ARL_p a0 tk (by omega) (by omega)
    refine k_F (y := 0) rfl ⟨by decide, by decide⟩ (fun _ => ?_) (fun z => absurd a0.1 z)
    refine k_isSign (s := 1) rfl ⟨by decide, by decide⟩ (by omega) (fun _ => args73_N (j := 0) tk hD hm a0 (by omega) (by omega)) (fun _ => ?_)
    exact args_loop tk hD hx hm N 0 (nx1 u) a0 (by omega) (by omega)
  · have fsm : FSM u0 TN σ D v1 := FSM_of (ST_67 hs h1) (by omega) (by omega) fs.1 h2
    refine k_F (y := 0) rfl ⟨by decide, by decide⟩ (fun z => absurd z h2) (fun _ => ?_)
    exact ok_mono (args73_F hT fsm) (fun _ _ => Or.inr)
def RWQ (u0 : MS) (TN SN : Nat) (bw : Nat → Nat) (σ : Nat) (D p o n q c f h s wt g : Int) (u v : MS) (r : Int32) : Prop := EXQ u0 TN SN bw σ (o - 1) p o n q c f h s wt g u v r ∨ FSM u0 TN σ D v
theorem row140_F2 {G : MS → Int32 → Int32 → Int32 → Int32 → Int32 → Int32 → Option (MS × Int32)} {t1 : Int32} (hT : TN ≤ 4000) (hD : D ≤ 3000) (hs : FSM u0 TN σ D v) (hp : 0 ≤ p ∧ p < 4002) (hk : vp_nar .byte (t1.toInt8.toInt32) = I k) (hk2 : 0 ≤ k ∧ k ≤ 31) : OK (fun v _ => FSM u0 TN σ (D + 1) v) (fb_M_row_140 N S G v (I p) y1 y2 t1) := by
  unfold fb_M_row_140
  have n0 := hs.2.2.2.2.1
  refine k_node hk hk2 rfl hp (by omega) (fun v1 hv1 => ?_)
  refine k_in (k := 25) (n := 16000) rfl (by decide) (by omega) (ok_lt.mpr (k_in (k := 26) (n := 16000) rfl (by decide) (by omega) (ok_lt.mpr (ok_some.mpr ?_))))
  rw [I_of y1, I_of y2, wa_e, wa_e]
  exact FSM_wa (FSM_wa (FSM_nd hs hv1.1) (by decide)) (by decide)
theorem row125_F {G : MS → Int32 → Int32 → Int32 → Int32 → Int32 → Int32 → Option (MS × Int32)} (hT : TN ≤ 4000) (hD : D ≤ 3000) (hs : FSM u0 TN σ D v) (hp : 0 ≤ p ∧ p < 4002) {z1 z2 : Int32} : OK (fun v _ => FSM u0 TN σ (D + 1) v) (fb_M_row_125 N S G v (I p) z1 z2 y1 y2) := by
  unfold fb_M_row_125
  refine k_needSign (I_of z2) (ti_rng z2) (FSM_p hs hT) (fun z => absurd z hs.2.1) (fun v1 h1 h2 => ?_)
  have s1 := FSM_67 hs h1 h2
  exact ok_br.mpr ⟨fun _ => row140_F2 (k := 5) hT hD s1 hp rfl (by decide), fun _ => row140_F2 (k := 4) hT hD s1 hp rfl (by decide)⟩
theorem row103_F {G : MS → Int32 → Int32 → Int32 → Int32 → Int32 → Int32 → Option (MS × Int32)} (hT : TN ≤ 4000) (hD : D ≤ 3000) (hs : FSM u0 TN σ D v) (hp : 0 ≤ p ∧ p < 4002) {z1 z2 : Int32} : OK (fun v _ => FSM u0 TN σ (D + 1) v) (fb_M_row_103 N S G v (I p) z1 z2 y1 y2) := by
  unfold fb_M_row_103
  refine ok_br.mpr ⟨fun _ => k_takeSign (s := 9) rfl ⟨by decide, by decide⟩ (FSM_p hs hT) (fun z => absurd z hs.2.1) (fun _ => ?_), fun _ => row125_F hT hD hs hp⟩
  rw [br00]
  exact row125_F hT hD hs hp
theorem row125_N {G : MS → Int32 → Int32 → Int32 → Int32 → Int32 → Int32 → Option (MS × Int32)} {j1 i : Nat} {z1 z2 : Int32} (tk : TKW u0 TN SN bw) (hD : 0 ≤ D ∧ D ≤ 2900) (ho : 0 ≤ o ∧ o ≤ 25) (hm : NM TN bw 3 0 0 σ p o n q c f h s wt) (a : ARL u0 TN SN bw σ y j p o n q c f h s wt g u v) (hy : 1 ≤ y ∧ 2 * j ≤ y) (hj : j1 ≤ 8 ∧ i ≤ 1 ∧ j = j1 + i) (hz : (z1 = 0 ∧ z2 = I 5) ∨ (z1 = 1 ∧ z2 = I 3 ∧ i = 0)) : OK (RWQ u0 TN SN bw σ (D + 1) p o n q c f h s wt g u) (fb_M_row_125 N S G v (I p) z1 z2 (I (j1 : Int)) (I (i : Int))) := by
  have hT := tk.1.1
  have fs := NM_fs hm (by omega)
  have pv := ARL_p a tk (by omega) (by omega)
  unfold fb_M_row_125
  obtain ⟨ec, hec, hrg⟩ : ∃ ec : Int, z2 = I ec ∧ RG ec := by
    rcases hz with hz | hz
    · exact ⟨5, hz.2, by decide, by decide⟩
    · exact ⟨3, hz.2.1, by decide, by decide⟩
  refine k_needSign hec hrg (by omega) (fun _ z => ?_) (fun v1 h1 h2 => ?_)
  · obtain ⟨b, p1, n1, q1, c1, f1, hh1, r1, r2, r3, r4, r5, r6⟩ := ARL_s (y2 := y + 1) a tk z (by omega) (by omega) (by omega)
    have e32 : F (nx1 v) 32 = n1 := r1.2.1.2.2.1
    have n1b : 0 ≤ n1 ∧ n1 ≤ 12000 ∧ n ≤ n1 := by unfold DLT at r3; unfold NM at hm; omega
    have p1b : p + 1 ≤ p1 ∧ 2 * (j : Int) ≤ p1 - p := by unfold DLT at r3; omega
    have nul := nu_le u0 (p1 + 1).toNat
    have node : ∀ (t1 : Int32) (kk : Int), vp_nar .byte (t1.toInt8.toInt32) = I kk → (kk = 5 ∨ (kk = 4 ∧ i = 0)) → OK (RWQ u0 TN SN bw σ (D + 1) p o n q c f h s wt g u) (fb_M_row_140 N S G (nx1 v) (I p) (I (j1 : Int)) (I (i : Int)) t1) := fun t1 kk h1 h2 => by
      unfold fb_M_row_140
      refine k_node h1 (by omega) rfl (by omega) (by omega) (fun v3 hv3 => ?_)
      refine k_in (k := 25) (n := 16000) rfl (by decide) (by omega) (ok_lt.mpr (k_in (k := 26) (n := 16000) rfl (by decide) (by omega) (ok_lt.mpr (ok_some.mpr (Or.inl ?_)))))
      rw [I_tn (by omega) (by omega), wa_e, wa_e]
      have nd : NDW (nx1 v) (wa (wa v3 25 (F (nx1 v) 32).toNat (j1 : Int)) 26 (F (nx1 v) 32).toNat (i : Int)) kk p := NDW_wa (NDW_wa hv3.1 (by decide)) (by decide)
      have nw : NEWN (wa (wa v3 25 (F (nx1 v) 32).toNat (j1 : Int)) 26 (F (nx1 v) 32).toNat (i : Int)) (F (nx1 v) 32).toNat kk := NEWN_wa (NEWN_wa (NEWN_of hv3 (by omega)) (by decide)) (by decide)
      have a25 : A (wa (wa v3 25 (F (nx1 v) 32).toNat (j1 : Int)) 26 (F (nx1 v) 32).toNat (i : Int)) 25 (F (nx1 v) 32).toNat = (j1 : Int) := by rw [wa_rne (by decide), wa_eq ⟨by omega, by omega⟩]
      have a26 : A (wa (wa v3 25 (F (nx1 v) 32).toNat (j1 : Int)) 26 (F (nx1 v) 32).toNat (i : Int)) 26 (F (nx1 v) 32).toNat = (i : Int) := wa_eq ⟨by omega, by omega⟩
      generalize wa (wa v3 25 (F (nx1 v) 32).toNat (j1 : Int)) 26 (F (nx1 v) 32).toNat (i : Int) = w at *
      have kw : KPR σ (nx1 v) w := KPR_nd KPR_rf nd (by omega)
      have sw := ST_nd r1 nd (by omega) (by omega) (fun z => by omega)
      have tn : TYG TN SN σ g (o - 1) (p1 + 1 - p + 1) (nx1 v) w j 1 (fun i => i = (F (nx1 v) 32).toNat) := by
        refine TYG_nd (xx := max 1 j) nd (by omega) r1.2.2.2.1 r5 (fun mm X Y y1 y2 => ?_) (by omega) (by omega)
        have on := ONE_nd nd (show 0 ≤ F (nx1 v) 32 by omega)
        rcases h2 with h2 | ⟨h2, h3⟩
        · rw [h2] at nw
          rw [hj.2.2]
          exact s5 on nw ⟨Nat.le_refl _, y1, by omega, by omega⟩ a25 a26 hj.1 hj.2.1
        · rw [h2] at nw
          rw [show j = j1 by omega]
          exact s4 on nw ⟨Nat.le_refl _, y1, by omega, by omega⟩ a25 hj.1
      refine ⟨?_, p1 + 1, n1 + 1, q1, c1, f1, hh1, n1.toNat, by rw [e32]; congr 1; omega, sw, KPR_tr r4 kw, by omega, ?_, ⟨by omega, by omega, ?_, ?_⟩, ?_, ?_⟩
      · rw [nd.1.F (by decide)]; exact b.1
      · unfold DLT at r3 ⊢; omega
      · rw [e32] at nw
        exact RTD_mo 0 _ _ ⟨by omega, nw.2.2.2.1⟩ (by omega)
      · rw [e32] at nw; exact nw.2.2.2.2.1
      · intro z; rw [nd.1.A (by decide)]; exact r5 (by rw [← z]; exact (nd.1.F (by decide)).symm)
      · refine TYG_ro (TYG_app (xb := p1 + 1 - p + 1) (e := 0) (TYG_mo (lv2 := o - 1) r6 (Int.le_refl _) (by omega)) kw tn rfl (by omega) (by omega)) (fun i hi => Or.inr (by rw [e32]; exact hi)) (fun i hi => ?_)
        rcases hi with hi | hi
        · exact hi.elim
        · rw [e32] at hi; exact Or.inl hi
    rcases hz with hz | hz
    · rw [hz.1, br00]; exact node 5 5 rfl (Or.inl rfl)
    · rw [hz.1, br10]; exact node 4 4 rfl (Or.inr ⟨rfl, hz.2.2⟩)
  · have s1 : FSM u0 TN σ D v1 := ARL_F a tk hm (by omega) hD.1 h1 h2
    refine ok_br.mpr ⟨fun _ => ok_mono (row140_F2 (k := 5) hT (by omega) s1 (by omega) rfl (by decide)) (fun _ _ => Or.inr), fun _ => ok_mono (row140_F2 (k := 4) hT (by omega) s1 (by omega) rfl (by decide)) (fun _ _ => Or.inr)⟩
theorem row103_N {G : MS → Int32 → Int32 → Int32 → Int32 → Int32 → Int32 → Option (MS × Int32)} {z1 z2 : Int32} (tk : TKW u0 TN SN bw) (hD : 0 ≤ D ∧ D ≤ 2900) (ho : 0 ≤ o ∧ o ≤ 25) (hx : XSP u0 TN SN bw D 3 0 0 0 o S.2.2.2.2.2.2.2.2.2.2.2.2.2.1) (hm : NM TN bw 3 0 0 σ p o n q c f h s wt) (a : ARL u0 TN SN bw σ (2 * (j : Int)) j p o n q c f h s wt g u v) (hj : 1 ≤ j ∧ j ≤ 8) (hz : (z1 = 0 ∧ z2 = I 5) ∨ (z1 = 1 ∧ z2 = I 3)) : OK (RWQ u0 TN SN bw σ (D + 1) p o n q c f h s wt g u) (fb_M_row_103 N S G v (I p) z1 z2 (I (j : Int)) 0) := by
  have hT := tk.1.1
  have fs := NM_fs hm (by omega)
  have pv := ARL_p a tk (by omega) (by omega)
  have plain := row125_N (N := N) (S := S) (G := G) (i := 0) (j1 := j) (z1 := z1) (z2 := z2) tk hD ho hm a (by omega) (by omega) (hz.imp id (fun y => ⟨y.1, y.2, rfl⟩))
  unfold fb_M_row_103
  rcases hz with hz | hz
  · rw [hz.1] at plain ⊢
    rw [br00]
    refine k_takeSign (s := 9) rfl ⟨by decide, by decide⟩ (by omega) (fun _ z => ?_) (fun _ => by rw [br00]; exact plain)
    rw [br10]
    have b := (ARL_s (y2 := 1 + 2 * (j : Int)) a tk z (by omega) (by omega) (by omega)).1
    refine ok_bnd.mpr (ok_mono (ARL_add b hx tk hm) (fun w r hw => ?_))
    rcases hw with hw | hw
    · exact row125_N (i := 1) (j1 := j) tk hD ho hm hw (by omega) (by omega) (Or.inl ⟨rfl, hz.2⟩)
    · exact ok_mono (row125_F hT (by omega) hw (by omega)) (fun _ _ => Or.inr)
  · rw [hz.1] at plain ⊢
    rw [br10]
    exact plain
theorem row_loop2 {z1 z2 : Int32} (tk : TKW u0 TN SN bw) (hD : 0 ≤ D ∧ D ≤ 2900) (ho : 0 ≤ o ∧ o ≤ 25) (hx : XSP u0 TN SN bw D 3 0 0 0 o S.2.2.2.2.2.2.2.2.2.2.2.2.2.1) (hm : NM TN bw 3 0 0 σ p o n q c f h s wt) (hz : (z1 = 0 ∧ z2 = I 5) ∨ (z1 = 1 ∧ z2 = I 3)) : ∀ (m j : Nat) (v : MS), ARL u0 TN SN bw σ (1 + 2 * j) j p o n q c f h s wt g u v → j ≤ 7 → 10 - j < m → OK (RWQ u0 TN SN bw σ (D + 1) p o n q c f h s wt g u) (gg_M_row N S m v (I p) z1 z2 (I (j : Int)) 0 1) := by
  have hT := tk.1.1
  have fs := NM_fs hm (by omega)
  intro m
  induction m with
  | zero => intro j v _ _ z; exact absurd z (Nat.not_lt_zero _)
  | succ m ih =>
    intro j v a hj hm2
    obtain ⟨m', rfl⟩ : ∃ m', m = m' + 1 := ⟨m - 1, by omega⟩
    show OK _ (fb_M_row_50 N S (gg_M_row N S (m' + 1)) v (I p) z1 z2 (I (j : Int)) 0 1)
    unfold fb_M_row_50
    rw [br10, I_F' a.1, show decide (I 0 = (0 : Int32)) = true from rfl, br_tq]
    refine ok_bnd.mpr (ok_mono (ARL_add a hx tk hm) (fun w r hw => ?_))
    rw [lit1q, I_add, show (j : Int) + 1 = ((j + 1 : Nat) : Int) from by omega, show (8 : Int32) = I 8 from rfl]
    have goF : ∀ w, FSM u0 TN σ D w → OK (RWQ u0 TN SN bw σ (D + 1) p o n q c f h s wt g u) (fb_M_row_92 N S (gg_M_row N S (m' + 1)) w (I p) z1 z2 (I ((j + 1 : Nat) : Int)) 0) := fun w hw => by
      unfold fb_M_row_92
      refine k_takeSign (s := 6) rfl ⟨by decide, by decide⟩ (FSM_p hw hT) (fun z => absurd z hw.2.1) (fun _ => ?_)
      show OK _ (fb_M_row_50 N S (gg_M_row N S m') w (I p) z1 z2 (I ((j + 1 : Nat) : Int)) 0 0)
      unfold fb_M_row_50
      rw [br00]
      exact ok_mono (row103_F hT (by omega) hw (by omega)) (fun _ _ => Or.inr)
    rcases hw with hw | hw
    · have pv := ARL_p hw tk (by omega) (by omega)
      have go : (j + 1 ≤ 7 ∨ ¬ IS w 6) → OK (RWQ u0 TN SN bw σ (D + 1) p o n q c f h s wt g u) (fb_M_row_92 N S (gg_M_row N S (m' + 1)) w (I p) z1 z2 (I ((j + 1 : Nat) : Int)) 0) := fun hzz => by
        unfold fb_M_row_92
        refine k_takeSign (s := 6) rfl ⟨by decide, by decide⟩ (by omega) (fun _ z => ?_) (fun _ => ?_)
        · have hj5 : j + 1 ≤ 7 := hzz.resolve_right (fun y => y z)
          have b := (ARL_s (y2 := 1 + 2 * (j + 1 : Nat)) hw tk z (by omega) (by omega) (by omega)).1
          exact ih (j + 1) (nx1 w) b hj5 (by omega)
        · show OK _ (fb_M_row_50 N S (gg_M_row N S m') w (I p) z1 z2 (I ((j + 1 : Nat) : Int)) 0 0)
          unfold fb_M_row_50
          rw [br00]
          exact row103_N tk hD ho hx hm hw (by omega) hz
      refine k_eq ⟨by omega, by omega⟩ ⟨by decide, by decide⟩ (fun e => ?_) (fun e => go (Or.inl (by omega)))
      refine k_isSign (s := 6) rfl ⟨by decide, by decide⟩ (by omega) (fun z => ?_) (fun z => go (Or.inr z))
      exact k_wrong (s := 2) rfl ⟨by decide, by decide⟩ (by decide) (by omega) (fun v1 h1 h2 => goF v1 (ARL_F hw tk hm (by omega) hD.1 h1 h2))
    · refine k_eq ⟨by omega, by omega⟩ ⟨by decide, by decide⟩ (fun e => ?_) (fun e => goF w hw)
      refine k_isSign (s := 6) rfl ⟨by decide, by decide⟩ (FSM_p hw hT) (fun z => ?_) (fun z => goF w hw)
      exact k_wrong (s := 2) rfl ⟨by decide, by decide⟩ (by decide) (FSM_p hw hT) (fun v1 h1 h2 => goF v1 (FSM_67 hw h1 h2))
def XWP (u0 : MS) (TN SN : Nat) (bw : Nat → Nat) (D o : Int) (P : MS → Prop) (fn : MS → Int32 → Option (MS × Int32)) : Prop := ∀ (u : MS) (σ : Nat) (p n q c f h s wt g : Int), ST u0 σ p o n q c f h s wt g u → F u 67 = 0 → P u → NM TN bw 0 1 0 σ p o n q c f h s wt → LGS σ u → OK (RWQ u0 TN SN bw σ D p o n q c f h s wt g u) (fn u (I p))
theorem row_ok (tk : TKW u0 TN SN bw) (hN : 5000 ≤ N) (hD : 0 ≤ D ∧ D ≤ 2900) (ho : 0 ≤ o ∧ o ≤ 25) (hx : XSP u0 TN SN bw D 3 0 0 0 o S.2.2.2.2.2.2.2.2.2.2.2.2.2.1) : XWP u0 TN SN bw (D + 10) o (fun u => IS u 2 ∨ IS u 4) (fm_M_row N S) := by
  intro u σ p n q c f h s wt g hs hf hi hm0 hl
  have hm := NM_mo (k2 := 3) (j2 := 0) (l2 := 0) hm0 (by omega) (by omega) (by omega)
  have hT := tk.1.1
  have fs := NM_fs hm (by omega)
  have e69 : F u 69 = p := hs.2.1.1
  have ltp : p < TN := by
    rcases hi with z | z
    · exact tok_lt tk (by omega) (by have := (ST_IS hs z).1; omega)
    · exact tok_lt tk (by omega) (by have := (ST_IS hs z).1; omega)
  have a0 : ARL u0 TN SN bw σ 1 0 p o n q c f h s wt g u (nx1 u) := ARL_0 tk hs hf hl ⟨by omega, ltp⟩ (by omega)
  have pv := ARL_p a0 tk (by omega) (by omega)
  have up : ∀ (x : Option (MS × Int32)), OK (RWQ u0 TN SN bw σ (D + 1) p o n q c f h s wt g u) x → OK (RWQ u0 TN SN bw σ (D + 10) p o n q c f h s wt g u) x := fun x hx => ok_mono hx (fun _ _ y => y.imp id (fun z => FSM_mo z (by omega)))
  have main : ∀ (z1 z2 : Int32) (ec : Int), (z1 = 0 ∧ z2 = I 5) ∨ (z1 = 1 ∧ z2 = I 3) → z2 = I ec → RG ec → OK (RWQ u0 TN SN bw σ (D + 1) p o n q c f h s wt g u) (fb_M_row_15 N S (gg_M_row N S N) u (I p) z1 z2) := fun z1 z2 ec hz hec hrg => by
    unfold fb_M_row_15
    refine ok_lt.mpr ?_
    rw [nx1_e]
    refine k_F (y := 0) rfl ⟨by decide, by decide⟩ (fun _ => ?_) (fun z => absurd a0.1 z)
    refine k_isSign hec hrg (by omega) (fun _ => ?_) (fun _ => ?_)
    · rw [lit0q]
      exact row125_N (i := 0) (j1 := 0) (j := 0) tk hD ho hm a0 (by omega) (by omega) (hz.imp id (fun y => ⟨y.1, y.2, rfl⟩))
    · exact row_loop2 tk hD ho hx hm hz N 0 (nx1 u) a0 (by omega) (by omega)
  unfold fm_M_row fb_M_row_0
  refine up _ (k_isSign (s := 2) rfl ⟨by decide, by decide⟩ (by omega) (fun _ => main 1 3 3 (Or.inr ⟨rfl, rfl⟩) rfl ⟨by decide, by decide⟩) (fun _ => main 0 5 5 (Or.inl ⟨rfl, rfl⟩) rfl ⟨by decide, by decide⟩))
end
end
section
section
variable {α : Type} {Q : MS → α → Prop} {u0 u v v1 w x : MS} {N σ TN SN q0 q1 q2 q3 e : Nat} {bw : Nat → Nat} {p o n q c f h s wt g lv xb xb1 xb2 k t m D d y z l : Int} {R R1 R2 : Nat → Prop} {r y1 y2 y3 : Int32} {S : SG_M_behind} {a : Nat → Nat} {j : Nat}
theorem leaf_bw (tk : TKW u0 TN SN bw) (hp : 0 ≤ p ∧ p < TN) (hz : A u0 6 p.toNat = 4 ∨ A u0 6 p.toNat = 1 ∨ A u0 6 p.toNat = 5 ∨ A u0 6 p.toNat = 2) : bw p.toNat + 1 + nu u0 (p + 1).toNat ≤ bw (p + 1).toNat := by
  have b := tk.2.2.2.1 p.toNat (by omega)
  have e : (p + 1).toNat = p.toNat + 1 := by omega
  rw [e]
  have nl := nu_le u0 (p.toNat + 1)
  by_cases z : A u0 6 p.toNat = 5
  · have := b.2.2.2.1 z
    omega
  · have nz : nu u0 (p.toNat + 1) = 0 := by
      unfold nu
      rw [if_neg (by omega), show p.toNat + 1 - 1 = p.toNat by omega, if_pos (by omega)]
    have := b.1
    omega
theorem leaf2 (tk : TKW u0 TN SN bw) (ho : 0 ≤ o ∧ o ≤ 25) (hp : 0 ≤ p ∧ p < TN) (hn : 0 ≤ n) (hlv : lv ≤ 25) (hu32 : F u 32 = n) (hz0 : A u0 6 p.toNat = 4 ∨ A u0 6 p.toNat = 1 ∨ A u0 6 p.toNat = 5 ∨ A u0 6 p.toNat = 2) (sw : ST u0 σ p o (n + 1) q c f h s wt g w) (kw : KPR σ u w) (f67 : F w 67 = 0) (a60 : A w 60 σ = A u 60 σ) (nw : NEWN w n.toNat k) (hl : LGS σ u) (ty : F w 72 = 0 → ∀ mm X Y : Nat, nmo σ u ≤ mm → 1 ≤ X → SEQ w SN (gq g) (mks u) (mks w) 0 1 (nmo σ u) (nmo σ u) (nmo σ u) mm X Y (hlo σ w) (fun i => i = n.toNat)) : EXQ u0 TN SN bw σ lv p o n q c f h s wt g u (nx1 w) (I n) := by
  have hT := tk.1.1
  have d := DLT_1 (n := n) (q := q) (c := c) (f := f) (h := h) (m := 1) tk hp (by omega)
  have lb := leaf_bw tk hp hz0
  replace d : DLT bw 2 1 (1 + nu u0 (p + 1).toNat) p n q c f h (p + 1) (n + 1) q c f h := by unfold DLT at d ⊢; omega
  have s1 := (sw.2.2.2.1 σ (Nat.le_refl σ)).1
  have lw : LGS σ w := fun z => by rw [a60]; exact hl (kw.2.2.2.2.2.2 z)
  refine ⟨(wi_ne (by decide)).trans f67, p + 1, n + 1, q, c, f, h, n.toNat, by congr 1; omega, ST_nx sw (by omega), KPR_w0 kw (by decide), by omega, DLT_mo d (by omega) (by omega) (by omega), ⟨by omega, by omega, RTD_mo 0 _ _ ⟨by omega, nw.2.2.2.1⟩ (by omega), nw.2.2.2.2.1⟩, fun z => lw (by rw [← z]; exact (wi_ne (by decide)).symm), ?_⟩
  refine TYG_v (v := w) ?_ (KPR_w0 KPR_rf (by decide)) (wi_mks (by decide)) rfl
  intro z1 z2 z3
  have nm : nmo σ w = nmo σ u := by unfold nmo; rw [a60]
  have l1 := lw z2
  refine ⟨nmo σ u, 1, 0, ?_, ?_, ?_, by omega, by omega⟩
  · rw [nm]; exact ty z1 _ _ _ (Nat.le_refl _) (Nat.le_refl _)
  · unfold nmo; omega
  · unfold nmo; omega
theorem alone58_ok (tk : TKW u0 TN SN bw) (ho : 0 ≤ o ∧ o ≤ 25) (hm : NM TN bw 0 1 0 σ p o n q c f h s wt) (hs : ST u0 σ p o n q c f h s wt g u) (hf : F u 67 = 0) (hl : LGS σ u) (hp : p < TN) (hz : A u0 6 p.toNat = 4 ∨ A u0 6 p.toNat = 1) : OK (RWQ u0 TN SN bw σ D p o n q c f h s wt g u) (fb_M_alone_28 N S () u (I p)) := by
  have hT := tk.1.1
  have fs := NM_fs hm (by omega)
  have e32 : F u 32 = n := hs.2.1.2.2.1
  unfold fb_M_alone_28
  refine k_node (k := 1) rfl (by decide) rfl (by omega) (by omega) (fun v1 hv1 => ?_)
  rw [e32]
  have e69 : F v1 69 = p := by rw [hv1.1.1.F (by decide)]; exact hs.2.1.1
  have a6 : A v1 6 p.toNat = A u0 6 p.toNat := by rw [hv1.1.1.A (by decide)]; exact ST_A hs (by decide)
  have a7 : A v1 7 p.toNat = A u0 7 p.toNat := by rw [hv1.1.1.A (by decide)]; exact ST_A hs (by decide)
  refine k_at (k := 6) (n := 4002) rfl (by decide) (by omega) ?_
  rw [tn_F, e69]
  have main : ∀ (t2 : Int32) (y : Int), t2 = I y → (y = 0 ∨ (y = 1 ∧ 0 ≤ A u0 7 p.toNat ∧ A u0 7 p.toNat < F u0 14)) → OK (RWQ u0 TN SN bw σ D p o n q c f h s wt g u) (fb_M_alone_58 N S () v1 (I n) 25 (I n) t2) := fun t2 y ht2 hy => by
    unfold fb_M_alone_58 fb_M_alone_361
    rw [show isK 25 4 = true by decide, ck_t, ht2]
    refine k_in (k := 25) (n := 16000) rfl (by decide) (by omega) (ok_lt.mpr ?_)
    rw [I_tn (x := n) (by omega) (by omega), wa_e]
    have e69b : F (wa v1 25 n.toNat y) 69 = p := e69
    refine k_at (k := 7) (n := 4002) rfl (by decide) (by omega) (k_in (k := 26) (n := 16000) rfl (by decide) (by omega) (ok_lt.mpr (ok_lt.mpr (ok_some.mpr (Or.inl ?_)))))
    rw [tn_F, e69b, I_A' (show A (wa v1 25 n.toNat y) 7 p.toNat = A u0 7 p.toNat by rw [wa_rne (by decide)]; exact a7), wa_e, nx1_e]
    have nd : NDW u (wa (wa v1 25 n.toNat y) 26 n.toNat (A u0 7 p.toNat)) 1 p := by
      rw [← e32]; exact NDW_wa (NDW_wa hv1.1 (by decide)) (by decide)
    have nw : NEWN (wa (wa v1 25 n.toNat y) 26 n.toNat (A u0 7 p.toNat)) n.toNat 1 := by
      have := NEWN_of hv1 (show 0 ≤ p ∧ p < 4002 by omega)
      rw [e32] at this
      exact NEWN_wa (NEWN_wa this (by decide)) (by decide)
    have a25 : A (wa (wa v1 25 n.toNat y) 26 n.toNat (A u0 7 p.toNat)) 25 n.toNat = y := by rw [wa_rne (by decide), wa_eq ⟨by omega, by omega⟩]
    have a26 : A (wa (wa v1 25 n.toNat y) 26 n.toNat (A u0 7 p.toNat)) 26 n.toNat = A u0 7 p.toNat := wa_eq (ARG1 _ _ _)
    generalize wa (wa v1 25 n.toNat y) 26 n.toNat (A u0 7 p.toNat) = w at *
    have on := ONE_nd nd (show 0 ≤ F u 32 by omega)
    rw [e32] at on
    have sw := ST_nd hs nd (by omega) (by omega) (fun z => by omega)
    refine leaf2 tk ho (by omega) (by omega) (by omega) e32 (hz.imp id Or.inl) sw (KPR_nd KPR_rf nd (by omega)) ((nd.1.F (by decide)).trans hf) (nd.1.A (by decide)) nw hl (fun _ mm X Y h1 h2 => s1 on nw ⟨Nat.le_refl _, h1, h2⟩ ?_)
    rw [a25, a26, ST_F sw (by decide)]
    exact hy
  refine k_A (y := 4) rfl ⟨by decide, by decide⟩ (fun z => main 0 0 rfl (Or.inl rfl)) (fun z => main 1 1 rfl (Or.inr ⟨rfl, ?_⟩))
  rw [a6] at z
  exact (tk.2.1 p.toNat (by omega)).2.2.1 (hz.resolve_left z)
theorem alone114_ok (tk : TKW u0 TN SN bw) (ho : 0 ≤ o ∧ o ≤ 25) (hm : NM TN bw 0 1 0 σ p o n q c f h s wt) (hs : ST u0 σ p o n q c f h s wt g v) (hf : F v 67 = 0) (hl : LGS σ u) (hp : p < TN) (hz : A u0 6 p.toNat = 5) (ku : KPR σ u v) (mu : mks v = mks u) (a60 : A v 60 σ = A u 60 σ) (hu32 : F u 32 = n) : OK (RWQ u0 TN SN bw σ D p o n q c f h s wt g u) (fb_M_alone_114 N S () v (I p)) := by
  have hT := tk.1.1
  have fs := NM_fs hm (by omega)
  have e32 : F v 32 = n := hs.2.1.2.2.1
  have sv := (tk.2.1 p.toNat (by omega)).2.2.2.2.2 hz
  unfold fb_M_alone_114 fb_M_alone_361
  refine k_node (k := 2) rfl (by decide) rfl (by omega) (by omega) (fun v1 hv1 => ?_)
  rw [e32]
  have e69 : F v1 69 = p := by rw [hv1.1.1.F (by decide)]; exact hs.2.1.1
  have a7 : A v1 7 p.toNat = A u0 7 p.toNat := by rw [hv1.1.1.A (by decide)]; exact ST_A hs (by decide)
  refine k_at (k := 7) (n := 4002) rfl (by decide) (by omega) (k_in (k := 25) (n := 16000) rfl (by decide) (by omega) (ok_lt.mpr (ok_lt.mpr (ok_some.mpr (Or.inl ?_)))))
  rw [I_tn (x := n) (by omega) (by omega), tn_F, e69, I_A' a7, wa_e, nx1_e]
  have nd : NDW v (wa v1 25 n.toNat (A u0 7 p.toNat)) 2 p := by
    rw [← e32]; exact NDW_wa hv1.1 (by decide)
  have nw : NEWN (wa v1 25 n.toNat (A u0 7 p.toNat)) n.toNat 2 := by
    have := NEWN_of hv1 (show 0 ≤ p ∧ p < 4002 by omega)
    rw [e32] at this
    exact NEWN_wa this (by decide)
  have a25 : A (wa v1 25 n.toNat (A u0 7 p.toNat)) 25 n.toNat = A u0 7 p.toNat := wa_eq (ARG1 _ _ _)
  generalize wa v1 25 n.toNat (A u0 7 p.toNat) = w at *
  have on := ONE_nd nd (show 0 ≤ F v 32 by omega)
  rw [e32, mu] at on
  have sw := ST_nd hs nd (by omega) (by omega) (fun z => by omega)
  refine leaf2 tk ho (by omega) (by omega) (by omega) hu32 (Or.inr (Or.inr (Or.inl hz))) sw (KPR_nd ku nd (by omega)) ((nd.1.F (by decide)).trans hf) ((nd.1.A (by decide)).trans a60) nw hl (fun _ mm X Y h1 h2 => s2 on nw ⟨Nat.le_refl _, h1, h2⟩ ?_)
  rw [a25]
  exact sv
theorem alone201_ok (tk : TKW u0 TN SN bw) (hz2 : A u0 6 p.toNat = 2) (ho : 0 ≤ o ∧ o ≤ 25) (hm : NM TN bw 0 1 0 σ p o n q c f h s wt) (hl : LGS σ u) (hp : p < TN) (hu32 : F u 32 = n) (sw : ST u0 σ p o (n + 1) q c f h s wt g w) (kw : KPR σ u w) (f67 : F w 67 = 0) (a60 : A w 60 σ = A u 60 σ) (on : ONE (mks u) (mks w) n.toNat) (nw : NEWN w n.toNat 3) (hr : RG z) (hz : z ≠ -1 → NCO z (nmo σ u) (hlo σ w)) : OK (RWQ u0 TN SN bw σ D p o n q c f h s wt g u) (fb_M_alone_201 N S () w (I p) (I n) (I z)) := by
  have hT := tk.1.1
  have fs := NM_fs hm (by omega)
  have fin : ∀ v : MS, ST u0 σ p o (n + 1) q c f h s wt g v → KPR σ u v → F v 67 = 0 → (∀ r i, A v r i = A w r i) → mks v = mks w → (F v 72 = 0 → z ≠ -1) → OK (RWQ u0 TN SN bw σ D p o n q c f h s wt g u) (fb_M_alone_213 N S () v (I n) (I z)) := fun v h1 h2 h3 h4 h5 h6 => by
    unfold fb_M_alone_213 fb_M_alone_361
    refine k_in (k := 25) (n := 16000) rfl (by decide) (by omega) (ok_lt.mpr (ok_lt.mpr (ok_some.mpr (Or.inl ?_))))
    rw [I_tn (x := n) (by omega) (by omega), wa_e, nx1_e]
    have nw2 : NEWN v n.toNat 3 := by
      unfold NEWN at nw ⊢
      rw [h4, h4, h4, h4, h4]; exact nw
    have k3 : A v 23 n.toNat ≠ 12 := by rw [nw2.1]; decide
    have on2 : ONE (mks u) (mks (wa v 25 n.toNat z)) n.toNat := by
      rw [show mks (wa v 25 n.toNat z) = mks v from rfl, h5]; exact on
    refine leaf2 tk ho (by omega) (by omega) (by omega) hu32 (Or.inr (Or.inr (Or.inr hz2))) (ST_wa25 h1 k3) (KPR_wn h2 (by decide) (by omega)) h3 ((wa_rne (by decide)).trans ((h4 60 σ).trans a60)) (NEWN_wa nw2 (by decide)) hl (fun y mm X Y g1 g2 => s3 on2 (NEWN_wa nw2 (by decide)) ⟨Nat.le_refl _, g1, g2⟩ ?_)
    rw [wa_eq hr]
    have : hlo σ (wa v 25 n.toNat z) = hlo σ w := by unfold hlo; rw [wa_rne (by decide), h4]
    rw [this]
    exact hz (h6 y)
  unfold fb_M_alone_201
  rw [show (-1 : Int32) = I (-1) from rfl]
  refine k_eq hr ⟨by decide, by decide⟩ (fun e => ?_) (fun e => fin w sw kw f67 (fun _ _ => rfl) rfl (fun _ => e))
  refine k_rule (s := 5) (t := p) rfl ⟨by decide, by decide⟩ (by decide) rfl (by omega) sw.2.2.1.1 (fun v1 h1 h2 h3 => ?_)
  exact fin v1 (ST_rule sw h1 h3) (KPR_rule kw h1 h2) (by rw [h1.F (by decide)]; exact f67) (fun r i => h1.A (by intro z; cases z)) (fr_mks h1 (by decide)) (fun y => absurd y h2)
def XBL (u0 : MS) (TN SN : Nat) (bw : Nat → Nat) (D o : Int) (P : MS → Prop) (fn : MS → Int32 → Option (MS × Int32)) : Prop := ∀ (u : MS) (σ : Nat) (p n q c f h s wt : Int), ST u0 σ p o n q c f h s wt 0 u → F u 67 = 0 → P u → NM TN bw 0 1 0 σ p o n q c f h s wt → LGS σ u → OK (fun v r => (EXQ u0 TN SN bw σ (o - 1) p o n q c f h s wt 0 u v r ∧ ¬ IW u 9) ∨ FSM u0 TN σ D v) (fn u (I p))
theorem alone315_ok (tk : TKW u0 TN SN bw) (hD : 0 ≤ D ∧ D ≤ 2900) (ho : 1 ≤ o ∧ o ≤ 25) (hm : NM TN bw 0 1 0 σ p o n q c f h s wt) (hs : ST u0 σ p o n q c f h s wt g v) (hf : F v 67 = 0) (hl : LGS σ v) (hp : p < TN) (hz : A u0 6 p.toNat = 3) (ku : KPR σ u v) (mu : mks v = mks u) (nu : nmo σ v = nmo σ u) (hg : g = 0 ∨ F v 72 ≠ 0 ∨ IW v 9) (hfun : XBL u0 TN SN bw D o (fun u => IW u 7) S.2.2.2.2.2.2.1) (hblk : XBL u0 TN SN bw D o (fun u => TSO u = 3) S.2.2.2.2.2.1) : OK (RWQ u0 TN SN bw σ D p o n q c f h s wt g u) (fb_M_alone_315 N S () v (I p)) := by
  have hT := tk.1.1
  have fs := NM_fs hm (by omega)
  have eg : F v 73 = g := hs.2.1.2.2.2.2.2.2.2.2.2.2.1
  have g01 := hs.2.2.1.2.1
  have e69v : F v 69 = p := hs.2.1.1
  unfold fb_M_alone_315
  refine ok_lt.mpr ?_
  rw [lit0q, wi_e]
  have s0 := ST_73 (x := 0) hs (Or.inl rfl)
  have k0 : KPR σ v (wi v 73 0) := KPR_w0 KPR_rf (by decide)
  have f0 : F (wi v 73 0) 67 = 0 := (wi_ne (by decide)).trans hf
  have e69 : F (wi v 73 0) 69 = p := s0.2.1.1
  have iw : ∀ t, IW (wi v 73 0) t → IW v t := fun t ht => by
    unfold IW at ht ⊢
    rw [e69] at ht
    rw [e69v]
    exact ht
  have iwb : ∀ t, IW v t → IW (wi v 73 0) t := fun t ht => by
    unfold IW at ht ⊢
    rw [e69v] at ht
    rw [e69]
    exact ht
  have l0 : LGS σ (wi v 73 0) := fun z => hl (by rw [← z]; exact (wi_ne (by decide)).symm)
  have fin : ∀ (w : MS) (r : Int32), (EXQ u0 TN SN bw σ (o - 1) p o n q c f h s wt 0 (wi v 73 0) w r ∧ ¬ IW (wi v 73 0) 9) ∨ FSM u0 TN σ D w → OK (RWQ u0 TN SN bw σ D p o n q c f h s wt g u) (fb_M_alone_347 N S () w (v.1 73) r) := fun w r hw => by
    unfold fb_M_alone_347 fb_M_alone_361
    rw [I_F' eg]
    refine ok_ck.mpr ⟨?_, ok_lt.mpr (ok_some.mpr ?_)⟩
    · rcases g01 with z | z
      · rw [z]; rfl
      · rw [z]; rfl
    rw [wi_e]
    rcases hw with ⟨⟨b0, p2, n2, q2, c2, f2, h2, e, b1, b2, b3, b4, b5, b6, b7, b8⟩, nz⟩ | hw
    · have kw : KPR σ u w := KPR_tr ku (KPR_tr k0 b3)
      refine Or.inl ⟨(wi_ne (by decide)).trans b0, p2, n2, q2, c2, f2, h2, e, b1, ST_73 b2 g01, KPR_w0 kw (by decide), b4, b5, ⟨b6.1, b6.2.1, RTD_A b6.2.2.1 (fun _ _ _ => rfl), b6.2.2.2⟩, fun z => b7 (by rw [← z]; exact (wi_ne (by decide)).symm), ?_⟩
      refine TYG_v (v := w) ?_ (KPR_w0 KPR_rf (by decide)) (wi_mks (by decide)) rfl
      have t0 : TYG TN SN σ 0 (o - 1) (p2 - p + 1) u w 0 1 (fun i => i = e) := TYG_u b8 ((wi_mks (by decide)).trans mu) nu
      by_cases zg : g = 0
      · rw [zg]; exact t0
      · intro z1
        exfalso
        rcases hg with hg | hg | hg
        · exact zg hg
        · exact hg ((KPR_tr k0 b3).2.2.2.2.2.1 z1)
        · exact nz (iwb 9 hg)
    · exact Or.inr (FSM_wi hw (by decide))
  refine k_isWord (s := 7) rfl ⟨by decide, by decide⟩ (by omega) (fun z7 => ?_) (fun z7 => ?_)
  · exact ok_bnd.mpr (ok_mono (hfun _ σ _ _ _ _ _ _ _ _ s0 f0 z7 hm l0) (fun w r hw => fin w r hw))
  · refine ok_bnd.mpr (ok_mono (hblk _ σ _ _ _ _ _ _ _ _ s0 f0 ?_ hm l0) (fun w r hw => fin w r hw))
    show A (wi v 73 0) 6 (F (wi v 73 0) 69).toNat = 3
    rw [e69]
    show A v 6 p.toNat = 3
    rw [ST_A hs (by decide)]; exact hz
theorem alone_ok (tk : TKW u0 TN SN bw) (hN : 5000 ≤ N) (hD : 0 ≤ D ∧ D ≤ 2900) (ho : 1 ≤ o ∧ o ≤ 25) (hx : XSP u0 TN SN bw D 3 0 0 0 o S.2.2.2.2.2.2.2.2.2.2.2.2.2.1) (hrow : XWP u0 TN SN bw D o (fun u => IS u 2 ∨ IS u 4) S.2.2.2.2.2.2.2.1) (hfun : XBL u0 TN SN bw D o (fun u => IW u 7) S.2.2.2.2.2.2.1) (hblk : XBL u0 TN SN bw D o (fun u => TSO u = 3) S.2.2.2.2.2.1) : XWP u0 TN SN bw (D + 10) o (fun _ => True) (fm_M_alone N S) := by
  intro u σ p n q c f h s wt g hs hf _ hm hl
  have hT := tk.1.1
  have fs := NM_fs hm (by omega)
  have e69 : F u 69 = p := hs.2.1.1
  have e32 : F u 32 = n := hs.2.1.2.2.1
  have e65 : F u 65 = σ := hs.2.1.2.2.2.2.2.2.2.2.2.2.2
  have hp4 : 0 ≤ F u 69 ∧ F u 69 ≤ 4001 := by omega
  have a6 : A u 6 p.toNat = A u0 6 p.toNat := ST_A hs (by decide)
  have up : ∀ (x : Option (MS × Int32)), OK (RWQ u0 TN SN bw σ D p o n q c f h s wt g u) x → OK (RWQ u0 TN SN bw σ (D + 10) p o n q c f h s wt g u) x := fun x hx => ok_mono hx (fun _ _ y => y.imp id (fun z => FSM_mo z (by omega)))
  have inu : ∀ (y : Option (MS × Int32)), OK (RWQ u0 TN SN bw σ D p o n q c f h s wt g u) y → OK (RWQ u0 TN SN bw σ D p o n q c f h s wt g u) (ck (inb (u.1 69) (ln 6)) y) := fun y hy => k_at (k := 6) (n := 4002) rfl (by decide) (by omega) hy
  have tlt : ¬ (A u0 6 p.toNat = 0 ∨ A u0 6 p.toNat = 7) → p < TN := fun z => tok_lt tk (by omega) z
  refine up _ ?_
  unfold fm_M_alone fb_M_alone_0
  rw [tn_F, e69]
  refine inu _ (k_A (y := 4) rfl ⟨by decide, by decide⟩ (fun z => ?_) (fun z4 => ?_))
  · rw [a6] at z
    exact alone58_ok tk (by omega) hm hs hf hl (tlt (by omega)) (Or.inl z)
  refine inu _ (k_A (y := 1) rfl ⟨by decide, by decide⟩ (fun z => ?_) (fun z1 => ?_))
  · rw [a6] at z
    exact alone58_ok tk (by omega) hm hs hf hl (tlt (by omega)) (Or.inr z)
  refine inu _ (k_A (y := 5) rfl ⟨by decide, by decide⟩ (fun z => ?_) (fun z5 => ?_))
  · rw [a6] at z
    refine k_F (k := 73) (y := 0) rfl ⟨by decide, by decide⟩ (fun _ => alone114_ok tk (by omega) hm hs hf hl (tlt (by omega)) z KPR_rf rfl rfl e32) (fun _ => ?_)
    refine k_rule (s := 7) (t := p) rfl ⟨by decide, by decide⟩ (by decide) rfl (by omega) hs.2.2.1.1 (fun v1 h1 h2 h3 => ?_)
    exact alone114_ok tk (by omega) hm (ST_rule hs h1 h3) ((h1.F (by decide)).trans hf) hl (tlt (by omega)) z (KPR_rule KPR_rf h1 h2) (fr_mks h1 (by decide)) (h1.A (by intro z; cases z)) e32
  refine inu _ (k_A (y := 2) rfl ⟨by decide, by decide⟩ (fun z => ?_) (fun z2 => ?_))
  · rw [a6] at z
    have ltp := tlt (by omega)
    obtain ⟨⟨k1, k2⟩, k3, ⟨k4, k5, k6⟩, -⟩ := id tk
    have kv := (k3 p.toNat (by omega)).2.2.2.1 z
    have a16 := k6 (A u0 7 p.toNat).toNat (by omega)
    refine k_node (k := 3) rfl (by decide) rfl (by omega) (by omega) (fun v1 hv1 => ?_)
    rw [e32]
    have s1 := ST_nd hs (v := v1) (k := 3) (t := p) hv1.1 (by omega) (by omega) (fun z => by omega)
    have e69b : F v1 69 = p := s1.2.1.1
    have e65b : F v1 65 = σ := s1.2.1.2.2.2.2.2.2.2.2.2.2.2
    have a7 : A v1 7 p.toNat = A u0 7 p.toNat := ST_A s1 (by decide)
    have kp1 : KPR σ u v1 := KPR_nd KPR_rf hv1.1 (by omega)
    have nw := NEWN_of hv1 (show 0 ≤ p ∧ p < 4002 by omega)
    have on := ONE_nd hv1.1 (show 0 ≤ F u 32 by omega)
    rw [e32] at nw on
    have f1 : F v1 67 = 0 := (hv1.1.1.F (by decide)).trans hf
    have b60 : A v1 60 σ = A u 60 σ := hv1.1.1.A (by decide)
    rw [I_F' e69b]
    obtain ⟨pn, hpn⟩ : ∃ pn : Nat, p = pn := ⟨p.toNat, by omega⟩
    have tp : p.toNat = pn := by omega
    have us := underscore_ok (N := N) (u := v1) (i := pn) (by omega) (by rw [← tp, a7]; omega) (by rw [← tp, a7, ST_A s1 (by decide)]; exact a16)
    rw [← hpn] at us
    refine ok_bnd.mpr (ok_mono us (fun v2 r2 hv2 => ?_))
    obtain ⟨rfl, hr2⟩ := hv2
    rcases hr2 with hr2 | hr2
    · rw [hr2, br00]
      refine k_at (k := 7) (n := 4002) rfl (by decide) (by omega) ?_
      rw [tn_F, e69b, I_A' a7, I_F' e65b]
      refine ok_bnd.mpr (ok_mono (found_ok (nm := F u0 17) hN k5 k4 (ARG1 u0 7 _) 30 σ (by omega) (by omega) s1.2.2.2.1) (fun v3 r3 hv3 => ?_))
      obtain ⟨r', hr, g1, g2, g3, g4⟩ := hv3
      have c60 : A v3 60 σ = A u 60 σ := (g1.A (by decide)).trans b60
      have rr : RG r' := by
        rcases g4 with ⟨z, -⟩ | z
        · rw [z]; exact ⟨by decide, by decide⟩
        · have := (g3 σ (Nat.le_refl σ)).1
          have h6 : A v3 60 σ < 2147483648 := (A_r v3 60 _).2
          unfold NCO at z
          exact ⟨by omega, by omega⟩
      rw [hr]
      refine alone201_ok tk z (by omega) hm hl ltp e32 (ST_sc s1 (FR.mo g1 (by decide) (by decide) (by decide) (by decide)) g3 (Or.inl (g1.F (by decide)))) (KPR_tr kp1 g2) ((g1.F (by decide)).trans f1) c60 ?_ ?_ rr (fun e => ?_)
      · rw [fr_mks g1 (by decide)]; exact on
      · unfold NEWN at nw ⊢
        rw [g1.A (by decide), g1.A (by decide), g1.A (by decide), g1.A (by decide), g1.A (by decide)]
        exact nw
      · rcases g4 with ⟨z, -⟩ | z
        · exact absurd z e
        · unfold nmo hlo
          rw [← c60]; exact z
    · rw [hr2, br10, show (-1 : Int32) = I (-1) from rfl]
      exact alone201_ok tk z (by omega) hm hl ltp e32 s1 kp1 f1 b60 on nw ⟨by decide, by decide⟩ (fun e => absurd rfl e)
  refine k_takeSign (s := 0) rfl ⟨by decide, by decide⟩ hp4 (fun _ z0 => ?_) (fun z0 => ?_)
  · rw [br10]
    have zt := ST_IS hs z0
    have ltp := tlt (by omega)
    have s1 := ST_nx hs (show 0 ≤ p ∧ p ≤ 4001 by omega)
    have d1 := DLT_1 (n := n) (q := q) (c := c) (f := f) (h := h) (m := 0) tk ⟨by omega, ltp⟩ (by omega)
    rw [show n + 0 = n by omega] at d1
    have m1 := NM_mo (k2 := 3) (j2 := 0) (l2 := 0) (NM_dlt tk hm d1 (by omega) (by omega) (by omega)) (by omega) (by omega) (by omega)
    have l1 : LGS σ (nx1 u) := fun z => hl (by rw [← z]; exact (wi_ne (by decide)).symm)
    refine ok_bnd.mpr (ok_mono (hx (nx1 u) σ _ _ _ _ _ _ _ _ _ s1 ((wi_ne (by decide)).trans hf) m1 l1) (fun v r hv => ?_))
    rcases hv with ⟨b0, p2, n2, q2, c2, f2, h2, e, b1, b2, b3, b4, b5, b6, b7, b8⟩ | hv
    · have e69v : F v 69 = p2 := b2.2.1.1
      have m2 := NM_dlt tk m1 b5 (by omega) (by omega) b4
      have fs2 := NM_fs m2 (by omega)
      have kv : KPR σ u v := KPR_tr (KPR_w0 KPR_rf (by decide)) b3
      refine k_needSign (s := 1) rfl ⟨by decide, by decide⟩ (by omega) (fun _ zc => ?_) (fun v2 g1 g2 => ?_)
      · have zc2 := ST_IS b2 zc
        have ltp2 := tok_lt tk (by omega) (show ¬ (A u0 6 (p2).toNat = 0 ∨ A u0 6 (p2).toNat = 7) by omega)
        have d2 := DLT_1 (n := n2) (q := q2) (c := c2) (f := f2) (h := h2) (m := 0) tk ⟨by omega, ltp2⟩ (by omega)
        rw [show n2 + 0 = n2 by omega] at d2
        have nul := nu_le u0 (p2 + 1).toNat
        unfold fb_M_alone_361
        refine ok_some.mpr (Or.inl ⟨(wi_ne (by decide)).trans b0, p2 + 1, n2, q2, c2, f2, h2, e, b1, ST_nx b2 (by omega), KPR_w0 kv (by decide), by omega, DLT_mo (DLT_tr (DLT_tr d1 b5) d2) (by omega) (by omega) (by omega), ⟨b6.1, b6.2.1, RTD_mo _ _ _ (RTD_A b6.2.2.1 (fun _ _ _ => rfl)) (by omega), b6.2.2.2⟩, fun z => b7 (by rw [← z]; exact (wi_ne (by decide)).symm), ?_⟩)
        exact TYG_mo (TYG_v (TYG_u b8 (wi_mks (by decide)) rfl) (KPR_w0 KPR_rf (by decide)) (wi_mks (by decide)) rfl) (by omega) (by omega)
      · unfold fb_M_alone_361
        exact ok_some.mpr (Or.inr (FSM_of (ST_67 b2 g1) (by omega) (by omega) fs2.1 g2))
    · refine k_needSign (s := 1) rfl ⟨by decide, by decide⟩ (FSM_p hv.1 hT) (fun z => absurd z hv.1.2.1) (fun v2 g1 g2 => ?_)
      unfold fb_M_alone_361
      exact ok_some.mpr (Or.inr (FSM_67 hv.1 g1 g2))
  · rw [br00]
    have t270 : IS u 2 ∨ IS u 4 → OK (RWQ u0 TN SN bw σ D p o n q c f h s wt g u) (fb_M_alone_270 N S () u (I p)) := fun zz => by
      unfold fb_M_alone_270 fb_M_alone_361
      exact ok_bnd.mpr (ok_mono (hrow u σ _ _ _ _ _ _ _ _ _ hs hf zz hm hl) (fun v r hv => ok_some.mpr hv))
    refine k_isSign (s := 2) rfl ⟨by decide, by decide⟩ hp4 (fun zz => t270 (Or.inl zz)) (fun _ => ?_)
    refine k_isSign (s := 4) rfl ⟨by decide, by decide⟩ hp4 (fun zz => t270 (Or.inr zz)) (fun _ => ?_)
    refine inu _ ?_
    refine k_A (y := 3) rfl ⟨by decide, by decide⟩ (fun z3 => ?_) (fun z3 => ?_)
    · rw [tn_F, e69, a6] at z3
      have ltp := tlt (by omega)
      refine k_F (k := 73) (y := 0) rfl ⟨by decide, by decide⟩ (fun hg => ?_) (fun hg => ?_)
      · rw [hs.2.1.2.2.2.2.2.2.2.2.2.2.1] at hg
        exact alone315_ok tk hD ho hm hs hf hl ltp z3 KPR_rf rfl rfl (Or.inl hg) hfun hblk
      · refine k_isWord (s := 9) rfl ⟨by decide, by decide⟩ hp4 (fun z9 => alone315_ok tk hD ho hm hs hf hl ltp z3 KPR_rf rfl rfl (Or.inr (Or.inr z9)) hfun hblk) (fun _ => ?_)
        refine k_rule (s := 7) (t := p) rfl ⟨by decide, by decide⟩ (by decide) rfl (by omega) hs.2.2.1.1 (fun v1 h1 h2 h3 => ?_)
        refine alone315_ok tk hD ho hm (ST_rule hs h1 h3) ((h1.F (by decide)).trans hf) (fun z => ?_) ltp z3 (KPR_rule KPR_rf h1 h2) (fr_mks h1 (by decide)) ?_ (Or.inr (Or.inl h2)) hfun hblk
        · rw [h1.A (by intro z; cases z)]; exact hl (by rw [← z]; exact (h1.F (by decide)).symm)
        · unfold nmo; rw [h1.A (by intro z; cases z)]
    · unfold fb_M_alone_361
      exact k_wrong (s := 2) rfl ⟨by decide, by decide⟩ (by decide) hp4 (fun v1 h1 h2 => ok_some.mpr (Or.inr (FSM_of (ST_67 hs h1) (by omega) (by omega) fs.1 h2)))
end
end
section
section
variable {u0 u v v1 w x : MS} {N σ TN SN e : Nat} {bw : Nat → Nat} {p o n q c f h s wt g lv xb k t m D d y z l : Int} {r y1 y2 y3 : Int32} {S : SG_M_behind} {j : Nat}
theorem prim_apply (tk : TKW u0 TN SN bw) (hD : 0 ≤ D ∧ D ≤ 2900) (ho : 1 ≤ o ∧ o ≤ 25) (harg : XAR u0 TN SN bw D o S.2.2.2.2.2.2.2.2.2.1) (hm : NM TN bw 0 1 0 σ p o n q c f h s wt) {G : MS → Int32 → Int32 → Option (MS × Int32)} (a : EXQ u0 TN SN bw σ (o - 1) p o n q c f h s wt g u x r) (b : FR [71, 72] [] [] [] x v) (hb : F v 67 = 0 ∧ (F v 72 ≠ 0 ∨ (v = x ∧ g = 0)) ∧ 0 ≤ F v 71 ∧ F v 71 < 4002) (hG : ∀ w r2, (EXQ u0 TN SN bw σ (o - 1) p o n q c f h s wt g u w r2 ∧ F x 69 < F w 69) ∨ FSM u0 TN σ (D + 1) w → OK (RWQ u0 TN SN bw σ (D + 3) p o n q c f h s wt g u) (G w (I p) r2)) : OK (RWQ u0 TN SN bw σ (D + 3) p o n q c f h s wt g u) (fb_M_primary_157 N S G v (I p)) := by
  have hT := tk.1.1
  have fs0 := NM_fs hm (by omega)
  obtain ⟨b0, p2, n2, q2, c2, f2, h2, e, b1, b2, b3, b4, b5, b6, b7, b8⟩ := a
  have e69 : F x 69 = p2 := b2.2.1.1
  have kx : KPR σ x v := by
    rcases hb.2.1 with z | ⟨z, -⟩
    · exact KPR_rule KPR_rf b z
    · rw [z]; exact KPR_rf
  have sv := ST_rule b2 b ⟨hb.2.2.1, hb.2.2.2⟩
  have av : ∀ r i, A v r i = A x r i := fun r i => b.A (by intro z; cases z)
  have lv : LGS σ v := fun z => by rw [av]; exact b7 (kx.2.2.2.2.2.2 z)
  have m2 := NM_mo (k2 := 3) (j2 := 0) (l2 := 0) (NM_dlt tk hm b5 (by omega) (by omega) b4) (by omega) (by omega) (by omega)
  unfold fb_M_primary_157
  refine ok_bnd.mpr (ok_mono (harg v σ _ _ _ _ _ _ _ _ _ sv hb.1 m2 lv) (fun v1 _ hv1 => ?_))
  rcases hv1 with ⟨g0, j, p3, n3, q3, c3, f3, h3, g1, g2, g3, g4, g5, g6, g7, g8⟩ | hv1
  · have m3 := NM_dlt tk m2 g5 (by omega) (by omega) g4
    have fs := NM_fs m3 (by omega)
    have e32 : F v1 32 = n3 := g2.2.1.2.2.1
    refine k_node (k := 13) rfl (by decide) rfl (by omega) (by omega) (fun v3 hv3 => ?_)
    refine k_in (k := 26) (n := 16000) rfl (by decide) (by omega) (ok_lt.mpr ?_)
    have e84 : F v3 84 = (j : Int) := (hv3.1.1.F (by decide)).trans g1.1
    rw [I_tn (by omega) (by omega), I_F' e84, wa_e]
    have nd : NDW v1 (wa v3 26 (F v1 32).toNat (j : Int)) 13 p := NDW_wa hv3.1 (by decide)
    have nw : NEWN (wa v3 26 (F v1 32).toNat (j : Int)) (F v1 32).toNat 13 := NEWN_wa (NEWN_of hv3 (by omega)) (by decide)
    have a26 : A (wa v3 26 (F v1 32).toNat (j : Int)) 26 (F v1 32).toNat = (j : Int) := wa_eq ⟨by omega, by omega⟩
    generalize wa v3 26 (F v1 32).toNat (j : Int) = w at *
    have nul := nu_le u0 p3.toNat
    have kw : KPR σ v1 w := KPR_nd KPR_rf nd (by omega)
    have sw := ST_nd g2 nd (by omega) (by omega) (fun z => by omega)
    refine hG w _ (Or.inl ⟨⟨(nd.1.F (by decide)).trans g0, p3, n3 + 1, q3, c3, f3, h3, n3.toNat, by rw [e32]; congr 1; omega, sw, KPR_tr b3 (KPR_tr kx (KPR_tr g3 kw)), g4, ?_, ⟨?_, by omega, ?_, ?_⟩, ?_, ?_⟩, ?_⟩)
    · have := DLT_tr b5 g5
      unfold DLT at this ⊢
      omega
    · unfold DLT at b5 g5; omega
    · rw [e32] at nw; exact RTD_mo 0 _ _ ⟨by unfold DLT at b5 g5; omega, nw.2.2.2.1⟩ (by omega)
    · rw [e32] at nw; exact nw.2.2.2.2.1
    · intro z; rw [nd.1.A (by decide)]; exact g7 (by rw [← z]; exact (nd.1.F (by decide)).symm)
    · rcases hb.2.1 with zz | ⟨zv, zg⟩
      · intro z1; exact absurd ((KPR_tr g3 kw).2.2.2.2.2.1 z1) zz
      · subst zv
        have t1 : TYG TN SN σ g (o - 1) (p3 - p + 1) u v1 0 (j + 1) (fun i => i = e ∨ False) := TYG_app (e := 1) b8 g3 (TYG_mo (lv2 := o - 1) g8 (Int.le_refl _) (by omega)) rfl (by unfold DLT at g5; omega) (by unfold DLT at b5; omega)
        have t2 : TYG TN SN σ g (o - 1) (p3 - p + 1) v1 w (j + 1) 1 (fun i => i = (F v1 32).toNat) := by
          refine TYG_nd (xx := j + 1) nd (by omega) g2.2.2.2.1 g7 (fun mm X Y y1 y2 => ?_) (by unfold DLT at b5; omega) (by omega)
          rw [show gq g = 0 by unfold gq; rw [if_pos zg]]
          exact s13 (ONE_nd nd (by omega)) nw ⟨Nat.le_refl _, y1, by omega, y2⟩ a26 g1.2
        refine TYG_ro (TYG_app (e := 0) t1 kw t2 rfl (Int.le_refl _) (by omega)) (fun i hi => Or.inr (by rw [e32]; exact hi)) (fun i hi => ?_)
        rcases hi with (hi | hi) | hi
        · refine Or.inr ?_
          rw [hi, nd.2.2.2.2 29 e (by rw [e32]; unfold DLT at g5; omega), g3.2.1.1 29 e (by decide) (by rw [b2.2.1.2.2.1]; omega)]
          exact b6.2.2.2
        · exact hi.elim
        · rw [e32] at hi; exact Or.inl hi
    · rw [e69, show F w 69 = p3 from sw.2.1.1]
      unfold DLT at g5; omega
  · have n0 := hv1.2.2.2.2.1
    refine k_node (k := 13) rfl (by decide) rfl (by omega) (by omega) (fun v3 hv3 => ?_)
    refine k_in (k := 26) (n := 16000) rfl (by decide) (by omega) (ok_lt.mpr ?_)
    rw [I_of (v3.1 84), wa_e]
    exact hG _ _ (Or.inr (FSM_wa (FSM_nd hv1 hv3.1) (by decide)))
theorem prim_loop (tk : TKW u0 TN SN bw) (hD : 0 ≤ D ∧ D ≤ 2900) (ho : 1 ≤ o ∧ o ≤ 25) (harg : XAR u0 TN SN bw D o S.2.2.2.2.2.2.2.2.2.1) (hm : NM TN bw 0 1 0 σ p o n q c f h s wt) : ∀ (i : Nat) (v : MS) (r : Int32), (EXQ u0 TN SN bw σ (o - 1) p o n q c f h s wt g u v r ∧ 4001 - F v 69 < i) ∨ (FSM u0 TN σ (D + 1) v ∧ 0 < i) → OK (RWQ u0 TN SN bw σ (D + 3) p o n q c f h s wt g u) (gg_M_primary N S i v (I p) r) := by
  have hT := tk.1.1
  have fs0 := NM_fs hm (by omega)
  intro i
  induction i with
  | zero =>
    intro v r hv
    rcases hv with ⟨⟨-, p2, n2, q2, c2, f2, h2, e, -, hs, -, hp, -⟩, z⟩ | ⟨-, z⟩
    · have : F v 69 = p2 := hs.2.1.1
      omega
    · exact absurd z (Nat.lt_irrefl 0)
  | succ i ih =>
    intro v r hv
    show OK _ (fb_M_primary_128 N S (gg_M_primary N S i) v (I p) r)
    unfold fb_M_primary_128 fb_M_primary_182
    rcases hv with ⟨hv, hi⟩ | ⟨hv, hi⟩
    · obtain ⟨b0, p2, n2, q2, c2, f2, h2, e, b1, b2, b3, b4, b5, -⟩ := id hv
      have e69 : F v 69 = p2 := b2.2.1.1
      have p2b : p ≤ p2 := by unfold DLT at b5; omega
      refine k_F (y := 0) rfl ⟨by decide, by decide⟩ (fun _ => ?_) (fun z => absurd b0 z)
      have next : ∀ w r2, (EXQ u0 TN SN bw σ (o - 1) p o n q c f h s wt g u w r2 ∧ F v 69 < F w 69) ∨ FSM u0 TN σ (D + 1) w → OK (RWQ u0 TN SN bw σ (D + 3) p o n q c f h s wt g u) (gg_M_primary N S i w (I p) r2) := fun w r2 hw => by
        refine ih w r2 ?_
        rcases hw with ⟨hw, hl⟩ | hw
        · exact Or.inl ⟨hw, by omega⟩
        · exact Or.inr ⟨hw, by omega⟩
      refine k_isSign (s := 0) rfl ⟨by decide, by decide⟩ (by omega) (fun z => ?_) (fun _ => ok_some.mpr (Or.inl hv))
      refine k_F (k := 73) (y := 0) rfl ⟨by decide, by decide⟩ (fun hg => ?_) (fun hg => ?_)
      · rw [b2.2.1.2.2.2.2.2.2.2.2.2.2.1] at hg
        exact prim_apply tk hD ho harg hm hv FR.rf ⟨b0, Or.inr ⟨rfl, hg⟩, b2.2.2.1.1⟩ next
      · refine k_rule (s := 7) (t := p) rfl ⟨by decide, by decide⟩ (by decide) rfl (by omega) b2.2.2.1.1 (fun v1 h1 h2 h3 => ?_)
        exact prim_apply tk hD ho harg hm hv h1 ⟨(h1.F (by decide)).trans b0, Or.inl h2, h3⟩ next
    · exact k_F (y := 0) rfl ⟨by decide, by decide⟩ (fun z => absurd z hv.2.1) (fun _ => ok_some.mpr (Or.inr (FSM_mo hv (by omega))))
def XPR (u0 : MS) (TN SN : Nat) (bw : Nat → Nat) (D o : Int) (fn : MS → Option (MS × Int32)) : Prop := ∀ (u : MS) (σ : Nat) (p n q c f h s wt g : Int), ST u0 σ p o n q c f h s wt g u → F u 67 = 0 → NM TN bw 0 1 0 σ p o n q c f h s wt → LGS σ u → OK (RWQ u0 TN SN bw σ D p o n q c f h s wt g u) (fn u)
theorem primary_ok (tk : TKW u0 TN SN bw) (hN : 5000 ≤ N) (hD : 0 ≤ D ∧ D ≤ 2900) (ho : 1 ≤ o ∧ o ≤ 25) (harg : XAR u0 TN SN bw D o S.2.2.2.2.2.2.2.2.2.1) (halo : XWP u0 TN SN bw D o (fun _ => True) S.2.2.2.2.2.2.2.2.1) : XPR u0 TN SN bw (D + 10) o (fm_M_primary N S) := by
  intro u σ p n q c f h s wt g hs hf hm hl
  have hT := tk.1.1
  have fs := NM_fs hm (by omega)
  have e69 : F u 69 = p := hs.2.1.1
  have a6 : ∀ i, A u 6 i = A u0 6 i := fun i => ST_A hs (by decide)
  have up : ∀ (x : Option (MS × Int32)), OK (RWQ u0 TN SN bw σ (D + 3) p o n q c f h s wt g u) x → OK (RWQ u0 TN SN bw σ (D + 10) p o n q c f h s wt g u) x := fun x hx => ok_mono hx (fun _ _ y => y.imp id (fun z => FSM_mo z (by omega)))
  have goN : ∀ w r2, EXQ u0 TN SN bw σ (o - 1) p o n q c f h s wt g u w r2 → OK (RWQ u0 TN SN bw σ (D + 3) p o n q c f h s wt g u) (gg_M_primary N S N w (I p) r2) := fun w r2 hw => by
    refine prim_loop tk hD ho harg hm N w r2 (Or.inl ⟨hw, ?_⟩)
    obtain ⟨b0, p2, n2, q2, c2, f2, h2, e, b1, b2, b3, b4, b5, -⟩ := hw
    have e69 : F w 69 = p2 := b2.2.1.1
    unfold DLT at b5
    omega
  have goF : ∀ w r2, FSM u0 TN σ (D + 1) w → OK (RWQ u0 TN SN bw σ (D + 3) p o n q c f h s wt g u) (gg_M_primary N S N w (I p) r2) := fun w r2 hw => prim_loop tk hD ho harg hm N w r2 (Or.inr ⟨hw, by omega⟩)
  have t122 : OK (RWQ u0 TN SN bw σ (D + 3) p o n q c f h s wt g u) (fb_M_primary_122 N S (gg_M_primary N S N) u (u.1 69)) := by
    unfold fb_M_primary_122
    rw [I_F' e69]
    refine ok_bnd.mpr (ok_mono (halo u σ _ _ _ _ _ _ _ _ _ hs hf trivial hm hl) (fun w r hw => ?_))
    rcases hw with hw | hw
    · exact goN w r hw
    · exact goF w r (FSM_mo hw (by omega))
  unfold fm_M_primary fb_M_primary_0
  refine up _ (k_F (y := 0) rfl ⟨by decide, by decide⟩ (fun _ => ?_) (fun z => absurd hf z))
  refine k_at (k := 6) (n := 4002) rfl (by decide) (by omega) ?_
  rw [tn_F, e69]
  refine k_A (y := 1) rfl ⟨by decide, by decide⟩ (fun z1 => ?_) (fun _ => t122)
  rw [a6] at z1
  have ltp := tok_lt tk (by omega) (show ¬ (A u0 6 (p).toNat = 0 ∨ A u0 6 (p).toNat = 7) by omega)
  have av := (tk.2.1 p.toNat (by omega)).2.2.1 z1
  have inb6 : ∀ (k : Nat) (y : Option (MS × Int32)), ln k = 4002 → OK (RWQ u0 TN SN bw σ (D + 3) p o n q c f h s wt g u) y → OK (RWQ u0 TN SN bw σ (D + 3) p o n q c f h s wt g u) (ck (inb ((u.1 69) + 1) (ln k)) y) := fun k y hk hy => by
    rw [I_F' e69, lit1q, I_add]
    exact k_in (n := 4002) hk (by decide) (by omega) hy
  refine inb6 6 _ rfl (ok_br.mpr ⟨fun z6 => inb6 7 _ rfl (ok_br.mpr ⟨fun z7 => ?_, fun _ => t122⟩), fun _ => t122⟩)
  refine ok_lt.mpr ?_
  rw [nx1_e]
  have s1 := ST_nx hs (show 0 ≤ p ∧ p ≤ 4001 by omega)
  have d1 := DLT_1 (n := n) (q := q) (c := c) (f := f) (h := h) (m := 0) tk ⟨by omega, ltp⟩ (by omega)
  rw [show n + 0 = n by omega] at d1
  have m1 := NM_mo (k2 := 3) (j2 := 0) (l2 := 0) (NM_dlt tk hm d1 (by omega) (by omega) (by omega)) (by omega) (by omega) (by omega)
  have l1 : LGS σ (nx1 u) := fun z => hl (by rw [← z]; exact (wi_ne (by decide)).symm)
  refine ok_bnd.mpr (ok_mono (harg (nx1 u) σ _ _ _ _ _ _ _ _ _ s1 ((wi_ne (by decide)).trans hf) m1 l1) (fun v1 _ hv1 => ?_))
  rw [I_F' e69]
  rcases hv1 with ⟨g0, j, p3, n3, q3, c3, f3, h3, g1, g2, g3, g4, g5, g6, g7, g8⟩ | hv1
  · have m3 := NM_dlt tk m1 g5 (by omega) (by omega) g4
    have fs3 := NM_fs m3 (by omega)
    have e32 : F v1 32 = n3 := g2.2.1.2.2.1
    refine k_node (k := 12) rfl (by decide) rfl (by omega) (by omega) (fun v3 hv3 => ?_)
    refine k_in (k := 7) (n := 4002) rfl (by decide) (by omega) (k_in (k := 25) (n := 16000) rfl (by decide) (by omega) (ok_lt.mpr ?_))
    have a7 : A v3 7 p.toNat = A u0 7 p.toNat := by rw [hv3.1.1.A (by decide)]; exact ST_A g2 (by decide)
    rw [I_tn (x := F v1 32) (by omega) (by omega), I_A' a7, wa_e]
    have e84 : F (wa v3 25 (F v1 32).toNat (A u0 7 p.toNat)) 84 = (j : Int) := (hv3.1.1.F (by decide)).trans g1.1
    refine k_in (k := 26) (n := 16000) rfl (by decide) (by omega) (ok_lt.mpr ?_)
    rw [I_F' e84, wa_e]
    have e73 : F (wa (wa v3 25 (F v1 32).toNat (A u0 7 p.toNat)) 26 (F v1 32).toNat (j : Int)) 73 = g := (hv3.1.1.F (by decide)).trans g2.2.1.2.2.2.2.2.2.2.2.2.2.1
    have nd0 : NDW v1 (wa (wa v3 25 (F v1 32).toNat (A u0 7 p.toNat)) 26 (F v1 32).toNat (j : Int)) 12 p := NDW_wa (NDW_wa hv3.1 (by decide)) (by decide)
    have nw0 : NEWN (wa (wa v3 25 (F v1 32).toNat (A u0 7 p.toNat)) 26 (F v1 32).toNat (j : Int)) (F v1 32).toNat 12 := NEWN_wa (NEWN_wa (NEWN_of hv3 (by omega)) (by decide)) (by decide)
    have a25 : A (wa (wa v3 25 (F v1 32).toNat (A u0 7 p.toNat)) 26 (F v1 32).toNat (j : Int)) 25 (F v1 32).toNat = A u0 7 p.toNat := by rw [wa_rne (by decide), wa_eq (ARG1 _ _ _)]
    have a26 : A (wa (wa v3 25 (F v1 32).toNat (A u0 7 p.toNat)) 26 (F v1 32).toNat (j : Int)) 26 (F v1 32).toNat = (j : Int) := wa_eq ⟨by omega, by omega⟩
    generalize wa (wa v3 25 (F v1 32).toNat (A u0 7 p.toNat)) 26 (F v1 32).toNat (j : Int) = w0 at *
    have fin : ∀ (t2 : Int32) (y : Int), t2 = I y → RG y → (g ≠ 0 → y = 1) → OK (RWQ u0 TN SN bw σ (D + 3) p o n q c f h s wt g u) (fb_M_primary_118 N S (gg_M_primary N S N) w0 (I p) (I (F v1 32)) 27 (I (F v1 32)) t2) := fun t2 y ht2 hy hyg => by
      unfold fb_M_primary_118
      rw [show isK 27 4 = true by decide, ck_t, ht2]
      refine k_in (k := 27) (n := 16000) rfl (by decide) (by omega) (ok_lt.mpr ?_)
      rw [I_tn (x := F v1 32) (by omega) (by omega), wa_e]
      have nd : NDW v1 (wa w0 27 (F v1 32).toNat y) 12 p := NDW_wa nd0 (by decide)
      have nw : NEWN (wa w0 27 (F v1 32).toNat y) (F v1 32).toNat 12 := NEWN_wa nw0 (by decide)
      have b25 : A (wa w0 27 (F v1 32).toNat y) 25 (F v1 32).toNat = A u0 7 p.toNat := by rw [wa_rne (by decide)]; exact a25
      have b26 : A (wa w0 27 (F v1 32).toNat y) 26 (F v1 32).toNat = (j : Int) := by rw [wa_rne (by decide)]; exact a26
      have b27 : A (wa w0 27 (F v1 32).toNat y) 27 (F v1 32).toNat = y := wa_eq hy
      generalize wa w0 27 (F v1 32).toNat y = w at *
      have kw : KPR σ v1 w := KPR_nd KPR_rf nd (by omega)
      have sw := ST_nd g2 nd (by omega) (by omega) (fun z => by rw [← e32, b25]; exact av)
      have d13 := DLT_tr d1 g5
      have nul := nu_le u0 p3.toNat
      refine goN w _ ⟨(nd.1.F (by decide)).trans g0, p3, n3 + 1, q3, c3, f3, h3, n3.toNat, by rw [e32]; congr 1; omega, sw, KPR_tr (KPR_w0 KPR_rf (by decide)) (KPR_tr g3 kw), g4, ?_, ⟨by unfold DLT at d13; omega, by omega, ?_, ?_⟩, ?_, ?_⟩
      · unfold DLT at d13 ⊢; omega
      · rw [e32] at nw; exact RTD_mo 0 _ _ ⟨by unfold DLT at d13; omega, nw.2.2.2.1⟩ (by omega)
      · rw [e32] at nw; exact nw.2.2.2.2.1
      · intro z; rw [nd.1.A (by decide)]; exact g7 (by rw [← z]; exact (nd.1.F (by decide)).symm)
      · have t1 : TYG TN SN σ g (o - 1) (p3 - p + 1) u v1 0 j (fun _ => False) := TYG_mo (TYG_u g8 (wi_mks (by decide)) rfl) (by omega) (by omega)
        have t2 : TYG TN SN σ g (o - 1) (p3 - p + 1) v1 w j 1 (fun i => i = (F v1 32).toNat) := by
          refine TYG_nd (xx := max 1 j) nd (by omega) g2.2.2.2.1 g7 (fun mm X Y y1 y2 => ?_) (by unfold DLT at d13; omega) (by omega)
          refine s12 (ONE_nd nd (by omega)) nw ⟨Nat.le_refl _, y1, by omega, by omega⟩ b26 g1.2 (fun z => ?_)
          rw [b27]
          refine hyg (fun zg => z ?_)
          unfold gq; rw [if_pos zg]
        refine TYG_ro (TYG_app (e := 0) t1 kw t2 rfl (Int.le_refl _) (by omega)) (fun i hi => Or.inr (by rw [e32]; exact hi)) (fun i hi => ?_)
        rcases hi with hi | hi
        · exact hi.elim
        · rw [e32] at hi; exact Or.inl hi
    refine k_F (k := 73) (y := 0) rfl ⟨by decide, by decide⟩ (fun zg => fin 0 0 rfl ⟨by decide, by decide⟩ (fun z => absurd (e73.symm.trans zg) z)) (fun zg => fin 1 1 rfl ⟨by decide, by decide⟩ (fun _ => rfl))
  · have n0 := hv1.2.2.2.2.1
    refine k_node (k := 12) rfl (by decide) rfl (by omega) (by omega) (fun v3 hv3 => ?_)
    refine k_in (k := 7) (n := 4002) rfl (by decide) (by omega) (k_in (k := 25) (n := 16000) rfl (by decide) (by omega) (ok_lt.mpr (k_in (k := 26) (n := 16000) rfl (by decide) (by omega) (ok_lt.mpr ?_))))
    rw [I_A (w := v3) (k := 7), wa_e, I_of ((wa v3 25 _ _).1 84), wa_e]
    have s3 := FSM_nd hv1 hv3.1
    have fin : ∀ (w0 : MS) (t2 : Int32), FSM u0 TN σ (D + 1) w0 → OK (RWQ u0 TN SN bw σ (D + 3) p o n q c f h s wt g u) (fb_M_primary_118 N S (gg_M_primary N S N) w0 (I p) (I (F v1 32)) 27 (I (F v1 32)) t2) := fun w0 t2 hw0 => by
      unfold fb_M_primary_118
      rw [show isK 27 4 = true by decide, ck_t]
      refine k_in (k := 27) (n := 16000) rfl (by decide) (by omega) (ok_lt.mpr ?_)
      rw [I_of t2, wa_e]
      exact goF _ _ (FSM_wa hw0 (by decide))
    exact ok_br.mpr ⟨fun _ => fin _ _ (FSM_wa (FSM_wa s3 (by decide)) (by decide)), fun _ => fin _ _ (FSM_wa (FSM_wa s3 (by decide)) (by decide))⟩
end
end
