set_option maxRecDepth 100000
def FuS (N : Nat) (S : SF_Cm_fun) (o cl : Nat) : Prop := ∀ (f : Nat) (u : MS) (lv c Q : Nat) (ps : Nat → Nat) (n lo hi a b q r : Nat), f ≤ 120 → CMP u lv c ps Q o lo → F u 712 = 0 ∨ F u 714 < 1000000000 → XPc u f o cl n lo hi a b q r → A u 16 n = 12 → b ≤ 8000 → hi ≤ c → r ≤ Q → OK (fun w _ => PXS u w lv ps lo hi q r o False 1) (S.1 u (I ((n : Nat) : Int)))
section
variable {u v w : MS} {N lv t hi lo o q r s c h m g x d a b k n f Q z la cl : Nat} {ps : Nat → Nat} {S : SF_Cm_fun} {H : List (Nat × Tyc)} {oo : Option Tyc}
theorem SG_z0 (y : SGc u a b q r H 0 h m [] 0 x oo) : SGc u a b q r H z h m [] 0 x oo := by
  obtain ⟨z1, z2, z3, T0, z4, z5⟩ := y
  exact ⟨z1, z2, z3, T0, z4, fun v T h1 h2 h3 h4 h5 h6 => z5 v T h1 h2 h3 h4 h5 ⟨h6.1, h6.2.1, fun z => absurd rfl z, h6.2.2.2⟩⟩
theorem KM_32 (h : CVI u lv) (g : FR [] [] [32] [] u w) : KMc u w lv := by
  have eF : ∀ k, F w k = F u k := fun k => congrArg _ (g.1 k (by simp))
  have eA : ∀ r k, r ≠ 32 → A w r k = A u r k := fun r k hr => by show (w.2.2.1 r k).toInt = _; rw [g.2.2.1 r (by simp; exact hr)]; rfl
  obtain ⟨g1, g2, g3, g4, g5, g6, g7, g8, g9⟩ := h
  refine ⟨FR.mo g (by simp) (by simp) (by simp) (by simp), ⟨by rw [eF]; exact g1, by rw [eF]; exact g2, by rw [eF]; exact g3, by rw [eF, eF]; exact g4, by rw [eF]; exact g5, by rw [eF]; exact g6, fun j hj => by rw [eA 40 j (by decide), eA 41 j (by decide)]; exact g7 j hj, by rw [eF, eA 40 lv (by decide)]; exact g8, by rw [eF, eA 40 lv (by decide), eA 41 lv (by decide)]; exact g9⟩, by rw [eF]; omega, by rw [eF]; omega, fun z => by rw [eF] at z; exact z, ⟨eF _, eF _⟩, fun j _ => eA 40 j (by decide), fun j _ => eA 41 j (by decide), by rw [eA 41 lv (by decide)]; omega⟩
theorem KM_711 {y : Int} (h : CVI u lv) (hy : y = 0 ∨ y = 1) (h0 : y = 0 → F u 711 = 0) : KMc u (wi u 711 y) lv := by
  have hr : RG y := ⟨by omega, by omega⟩
  have eF : ∀ k, k ≠ 711 → F (wi u 711 y) k = F u k := fun k hk => by rw [F_wi hr.1 hr.2, if_neg hk]
  have e1 : F (wi u 711 y) 711 = y := by rw [F_wi hr.1 hr.2, if_pos rfl]
  obtain ⟨g1, g2, g3, g4, g5, g6, g7, g8, g9⟩ := h
  exact ⟨FR.wi FR.rf (by simp), ⟨by rw [eF 441 (by decide)]; exact g1, by rw [eF 706 (by decide)]; exact g2, by rw [eF 709 (by decide)]; exact g3, by rw [eF 712 (by decide), eF 713 (by decide)]; exact g4, by rw [eF 714 (by decide)]; exact g5, by rw [e1]; exact hy, g7, by rw [eF 706 (by decide)]; exact g8, by rw [eF 706 (by decide)]; exact g9⟩, by rw [eF 441 (by decide)]; omega, by rw [eF 714 (by decide)]; omega, fun z => h0 (by rw [e1] at z; exact z), ⟨eF _ (by decide), eF _ (by decide)⟩, fun _ _ => rfl, fun _ _ => rfl, Int.le_refl _⟩
theorem fun_in {P : Nat} {v1 w32 w40 w43 w48 x0 : MS} (cu : CVI u lv) (hl : lv ≤ 25) (k1 : EMc (wi u 712 0) v1 [18, 0]) (hk : k ≤ 6) (h32 : w32 = wa v1 30 P ((k : Nat) : Int)) (h40 : w40 = wa w32 31 P (F v1 441)) (h43 : w43 = wi w40 709 ((lv + 1 : Nat) : Int)) (h48 : w48 = wa w43 40 (lv + 1) (F u 706)) (hx : x0 = wa w48 41 (lv + 1) 0) : KMF u x0 ∧ CVI x0 (lv + 1) ∧ F x0 712 = 0 ∧ (F x0 706 = F u 706 ∧ F x0 441 = F v1 441 ∧ F x0 714 = F u 714 ∧ F x0 711 = F u 711 ∧ F x0 713 = F u 713) ∧ (A x0 40 (lv + 1) = F u 706 ∧ (∀ j, j ≠ lv + 1 → A x0 40 j = A u 40 j ∧ A x0 41 j = A u 41 j)) ∧ (A x0 30 P = ((k : Nat) : Int) ∧ A x0 31 P = F v1 441 ∧ (∀ pl, pl ≠ P → A x0 30 pl = A u 30 pl ∧ A x0 31 pl = A u 31 pl) ∧ ∀ pl, A x0 32 pl = A u 32 pl) ∧ ∀ j, A x0 23 j = A v1 23 j := by
  obtain ⟨g1, g2, g3, g4, g5, g6, g7, g8, g9⟩ := cu
  have f0 : ∀ j, j ≠ 712 → F (wi u 712 0) j = F u j := fun j hj => by rw [F_wi (by decide) (by decide), if_neg hj]
  have f02 : F (wi u 712 0) 712 = 0 := by rw [F_wi (by decide) (by decide), if_pos rfl]
  have fa : ∀ r j, A (wi u 712 0) r j = A u r j := fun _ _ => rfl
  have m0 : KMF u (wi u 712 0) := FR.wi FR.rf (by simp)
  generalize wi u 712 0 = u0 at k1 f0 f02 fa m0
  have f1 : ∀ j, j ≠ 712 → j ≠ 441 → F v1 j = F u j := fun j hj h4 => (congrArg _ (k1.1.1 j (by simp; exact h4)) : F v1 j = F u0 j).trans (f0 j hj)
  have f12 : F v1 712 = 0 := (congrArg _ (k1.1.1 712 (by simp)) : F v1 712 = F u0 712).trans f02
  have a1 : ∀ r j, r ≠ 23 → A v1 r j = A u r j := fun r j hr => by
    rw [← fa r j]
    show (v1.2.2.1 r j).toInt = _; rw [k1.1.2.2.1 r (by simp; exact hr)]; rfl
  have h441 := k1.2.1
  rw [f0 441 (by decide)] at h441
  have rl : RG ((lv + 1 : Nat) : Int) := ⟨by omega, by omega⟩
  have rk : RG ((k : Nat) : Int) := ⟨by omega, by omega⟩
  have r4 : RG (F v1 441) := FRG1 v1 441
  have r6 : RG (F u 706) := FRG1 u 706
  have m1 : KMF u v1 := FR.tr m0 (FR.mo k1.1 (by simp) (by simp) (by simp) (by simp))
  have km : KMF u x0 := by
    rw [hx, h48, h43, h40, h32]
    exact FR.wa (FR.wa (FR.wi (FR.wa (FR.wa m1 (by simp)) (by simp)) (by simp)) (by simp)) (by simp)
  have F40 : ∀ j, F w40 j = F v1 j := fun j => by rw [h40, F_wa, h32, F_wa]
  have xF : ∀ j, j ≠ 709 → F x0 j = F v1 j := fun j hj => by rw [hx, F_wa, h48, F_wa, h43, F_wi rl.1 rl.2, if_neg hj, F40]
  have x9 : F x0 709 = ((lv + 1 : Nat) : Int) := by rw [hx, F_wa, h48, F_wa, h43, F_wi rl.1 rl.2, if_pos rfl]
  have A43 : ∀ r j, A w43 r j = A w40 r j := fun r j => by rw [h43, A_wi]
  have A40 : ∀ r j, r ≠ 30 → r ≠ 31 → A w40 r j = A v1 r j := fun r j h0 h1 => by rw [h40, A_wa r4.1 r4.2, if_neg h1, h32, A_wa rk.1 rk.2, if_neg h0]
  have xA : ∀ r j, r ≠ 40 → r ≠ 41 → A x0 r j = A w40 r j := fun r j h0 h1 => by rw [hx, A_wa (by decide) (by decide), if_neg h1, h48, A_wa r6.1 r6.2, if_neg h0, A43]
  have x40 : ∀ j, A x0 40 j = if j = lv + 1 then F u 706 else A u 40 j := fun j => by
    rw [hx, A_wa (by decide) (by decide), if_neg (show ¬ (40 : Nat) = 41 by decide), h48, A_wa r6.1 r6.2, if_pos (show (40 : Nat) = 40 from rfl), A43, A40 40 j (by decide) (by decide), a1 40 j (by decide)]
  have x41 : ∀ j, A x0 41 j = if j = lv + 1 then 0 else A u 41 j := fun j => by
    rw [hx, A_wa (by decide) (by decide), if_pos (show (41 : Nat) = 41 from rfl), h48, A_wa r6.1 r6.2, if_neg (show ¬ (41 : Nat) = 40 by decide), A43, A40 41 j (by decide) (by decide), a1 41 j (by decide)]
  have y30 : ∀ j, A w40 30 j = if j = P then ((k : Nat) : Int) else A u 30 j := fun j => by
    rw [h40, A_wa r4.1 r4.2, if_neg (show ¬ (30 : Nat) = 31 by decide), h32, A_wa rk.1 rk.2, if_pos (show (30 : Nat) = 30 from rfl), a1 30 j (by decide)]
  have y31 : ∀ j, A w40 31 j = if j = P then F v1 441 else A u 31 j := fun j => by
    rw [h40, A_wa r4.1 r4.2, if_pos (show (31 : Nat) = 31 from rfl), h32, A_wa rk.1 rk.2, if_neg (show ¬ (31 : Nat) = 30 by decide), a1 31 j (by decide)]
  have e6 : F x0 706 = F u 706 := by rw [xF 706 (by decide), f1 706 (by decide) (by decide)]
  have e14 : F x0 714 = F u 714 := by rw [xF 714 (by decide), f1 714 (by decide) (by decide)]
  have e11 : F x0 711 = F u 711 := by rw [xF 711 (by decide), f1 711 (by decide) (by decide)]
  have e13 : F x0 713 = F u 713 := by rw [xF 713 (by decide), f1 713 (by decide) (by decide)]
  have e12 : F x0 712 = 0 := by rw [xF 712 (by decide), f12]
  have e4 : F x0 441 = F v1 441 := xF 441 (by decide)
  have c7 : ∀ j, j < 32 → (0 ≤ A x0 40 j ∧ A x0 40 j ≤ 4000) ∧ 0 ≤ A x0 41 j ∧ A x0 41 j ≤ 4000 := fun j hj => by
    rw [x40, x41]
    have := g7 j hj
    by_cases e : j = lv + 1
    · rw [if_pos e, if_pos e]; omega
    · rw [if_neg e, if_neg e]; exact this
  have c8 : A x0 40 (lv + 1) = F u 706 := by rw [x40, if_pos rfl]
  have c9 : A x0 41 (lv + 1) = 0 := by rw [x41, if_pos rfl]
  have cv : CVI x0 (lv + 1) := ⟨by rw [e4]; omega, by rw [e6]; exact g2, ⟨x9, by omega⟩, ⟨Or.inl e12, by rw [e13]; exact g4.2⟩, by rw [e14]; exact g5, by rw [e11]; exact g6, c7, by rw [c8, e6]; exact Int.le_refl _, by rw [c8, c9, e6]; omega⟩
  refine ⟨km, cv, e12, ⟨e6, e4, e14, e11, e13⟩, ⟨c8, fun j hj => ⟨by rw [x40, if_neg hj], by rw [x41, if_neg hj]⟩⟩, ⟨?_, ?_, fun pl hp => ⟨?_, ?_⟩, fun pl => ?_⟩, fun j => ?_⟩
  · rw [xA 30 P (by decide) (by decide), y30, if_pos rfl]
  · rw [xA 31 P (by decide) (by decide), y31, if_pos rfl]
  · rw [xA 30 pl (by decide) (by decide), y30, if_neg hp]
  · rw [xA 31 pl (by decide) (by decide), y31, if_neg hp]
  · rw [xA 32 pl (by decide) (by decide), A40 32 pl (by decide) (by decide), a1 32 pl (by decide)]
  · rw [xA 23 j (by decide) (by decide), A40 23 j (by decide) (by decide)]
end
