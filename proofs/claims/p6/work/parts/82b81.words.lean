set_option maxRecDepth 100000
def WDk (u : MS) (v n : Nat) : Prop := ∀ k : Nat, k < n → 0 ≤ A u (v + 2) k ∧ A u (v + 2) k ≤ A u (v + 2) (k + 1) ∧ A u (v + 2) (k + 1) ≤ bl (v + 1)
def TPB (u : MS) : Prop := ∀ k, k < 4000 → fits .byte (.int (u.2.2.1 5 k)) = true
section
variable {u v w : MS} {N k n x y b s e l at0 : Nat}
theorem isSame_ok {st : Int} (hk : (k : Int) + 1 < il (x + 2)) (hl : il (x + 2) ≤ 100000) (hb2 : bl (x + 1) ≤ 100000) (hb3 : bl b ≤ 100000) (e1 : A u (x + 2) k = ((s : Nat) : Int)) (e2 : A u (x + 2) (k + 1) = ((e : Nat) : Int)) (h1 : s ≤ e) (h2 : e ≤ bl (x + 1)) (hst : 0 ≤ st) (h3 : st + (e - s : Nat) ≤ bl b) (hN : 100010 ≤ N) : OK (fun w _ => w = u) (hm_Wo_isSame N u x (I ((k : Nat) : Int)) b (I st)) := by
  unfold hm_Wo_isSame hb_Wo_isSame_0
  refine e_in ⟨by omega, by omega⟩ (by omega) ?_
  rw [tnI (n := k) rfl (by omega), I_A (k := x + 2), e1]
  have gen : ∀ (M i : Nat), s ≤ i → i ≤ e → e - i < M → OK (fun w _ => w = u) (hg_Wo_isSame N M u x (I ((k : Nat) : Int)) b (I st) (I ((s : Nat) : Int)) (I ((i : Nat) : Int))) := by
    intro M
    induction M with
    | zero => intro i _ _ h; omega
    | succ M ih =>
      intro i hi1 hi2 hM
      show OK _ (hb_Wo_isSame_12 N (hg_Wo_isSame N M) u x (I ((k : Nat) : Int)) b (I st) (I ((s : Nat) : Int)) (I ((i : Nat) : Int)))
      unfold hb_Wo_isSame_12
      rw [lit1q, I_add]
      refine e_in ⟨by omega, by omega⟩ (by omega) ?_
      rw [tnI (n := k + 1) (by omega) (by omega), I_A (k := x + 2), e2]
      refine k_le ⟨by omega, by omega⟩ ⟨by omega, by omega⟩ (fun _ => ok_ck.mpr ⟨by decide, ok_some.mpr rfl⟩) (fun h4 => ?_)
      refine e_in ⟨by omega, by omega⟩ (by omega) ?_
      rw [I_add, I_sub]
      refine e_in ⟨by omega, by omega⟩ (by omega) ?_
      refine ok_br.mpr ⟨fun _ => ?_, fun _ => ok_ck.mpr ⟨by decide, ok_some.mpr rfl⟩⟩
      rw [I_add, show ((i : Nat) : Int) + 1 = ((i + 1 : Nat) : Int) by omega]
      exact ih (i + 1) (by omega) (by omega) (by omega)
  exact gen N s (Nat.le_refl _) h1 (by omega)
theorem seekW_ok {st ln : Int} (hw : WDc u x) (hx : x < 1000) (hb3 : bl b ≤ 100000) (hst : 0 ≤ st) (hln : 0 ≤ ln ∧ ln ≤ 100000) (h3 : st + ln ≤ bl b) (hN : 200010 ≤ N) : OK (fun w r => w = u ∧ (r = I (-1) ∨ ∃ k : Nat, r = I ((k : Nat) : Int) ∧ ((k : Nat) : Int) < F u (20 * x + 2))) (hm_Wo_seek N u x b (I st) (I ln)) := by
  obtain ⟨w1, w2, w3, w4, w5⟩ := hw
  unfold hm_Wo_seek hb_Wo_seek_0
  have gen : ∀ (M i : Nat), (i : Int) ≤ F u (20 * x + 2) → F u (20 * x + 2) - i < M → OK (fun w r => w = u ∧ (r = I (-1) ∨ ∃ k : Nat, r = I ((k : Nat) : Int) ∧ ((k : Nat) : Int) < F u (20 * x + 2))) (hg_Wo_seek N M u x b (I st) (I ln) (I ((i : Nat) : Int))) := by
    intro M
    induction M with
    | zero => intro i _ h; omega
    | succ M ih =>
      intro i hi hM
      show OK _ (hb_Wo_seek_3 N (hg_Wo_seek N M) u x b (I st) (I ln) (I ((i : Nat) : Int)))
      unfold hb_Wo_seek_3 hb_Wo_seek_47
      rw [I_F (k := 20 * x + 2)]
      refine k_le (FRG1 u _) ⟨by omega, by omega⟩ (fun _ => ok_some.mpr ⟨rfl, Or.inl rfl⟩) (fun h4 => ?_)
      obtain ⟨a1, a2, a3⟩ := w5 i h4
      rw [lit1q, I_add]
      have nx : OK (fun w r => w = u ∧ (r = I (-1) ∨ ∃ k : Nat, r = I ((k : Nat) : Int) ∧ ((k : Nat) : Int) < F u (20 * x + 2))) (hg_Wo_seek N M u x b (I st) (I ln) (I (((i : Nat) : Int) + 1))) := by
        rw [show ((i : Nat) : Int) + 1 = ((i + 1 : Nat) : Int) by omega]
        exact ih (i + 1) (by omega) (by omega)
      refine e_in ⟨by omega, by omega⟩ (by omega) (e_in ⟨by omega, by omega⟩ (by omega) ?_)
      rw [tnI (n := i + 1) (by omega) (by omega), tnI (n := i) rfl (by omega), I_A (k := x + 2), I_A (k := x + 2), I_sub]
      refine k_eq ⟨by omega, by omega⟩ ⟨by omega, by omega⟩ (fun h5 => ?_) (fun _ => nx)
      refine ok_bnd.mpr (ok_mono (isSame_ok (N := N) (s := (A u (x + 2) i).toNat) (e := (A u (x + 2) (i + 1)).toNat) (by omega) w3 w4 hb3 (by omega) (by omega) (by omega) (by omega) hst (by omega) (by omega)) (fun w r hw => ?_))
      subst hw
      exact ok_br.mpr ⟨fun _ => nx, fun _ => ok_some.mpr ⟨rfl, Or.inr ⟨i, rfl, h4⟩⟩⟩
  rw [lit0q, show (0 : Int) = ((0 : Nat) : Int) from rfl]
  exact gen N 0 (by omega) (by omega)
def FNWc (u w : MS) (x : Nat) (r : Int32) : Prop := WDc w x ∧ FR [20 * x + 2] [] [x + 1, x + 2] [] u w ∧ F u (20 * x + 2) ≤ F w (20 * x + 2) ∧ ∃ k : Nat, r = I ((k : Nat) : Int) ∧ ((k : Nat) : Int) < F w (20 * x + 2)
theorem findW_ok {st ln : Int} (hw : WDc u x) (hx : x < 1000) (h1 : 1 ≤ F u (20 * x + 2)) (hx5 : x + 1 ≠ 5 ∧ x + 2 ≠ 5) (hb3 : bl 5 = 4000) (hst : 0 ≤ st) (hln : 0 ≤ ln ∧ ln ≤ 4000) (h3 : st + ln ≤ 4000) (tp : TPB u) (hN : 200010 ≤ N) : OK (fun w r => FNWc u w x r) (hm_Wo_find N u x 5 (I st) (I ln)) := by
  have hw' := hw
  obtain ⟨w1, w2, w3, wb4, w5⟩ := hw
  unfold hm_Wo_find hb_Wo_find_0 hb_Wo_find_51
  refine ok_bnd.mpr (ok_mono (seekW_ok (N := N) (b := 5) hw' hx (by rw [hb3]; omega) hst (by omega) (by rw [hb3]; exact h3) hN) (fun w r hr => ?_))
  obtain ⟨rfl, hr⟩ := hr
  have z0 : OK (fun v r => FNWc w v x r) (some (w, (0 : Int32))) := ok_some.mpr ⟨hw', FR.rf, Int.le_refl _, 0, rfl, by omega⟩
  rcases hr with rfl | ⟨k, rfl, hk⟩
  · refine ok_br.mpr ⟨fun _ => ?_, fun z => absurd z (by decide)⟩
    rw [show Int32.ofNat (il (x + 2)) = I ((il (x + 2) : Nat) : Int) from rfl, show Int32.ofNat (bl (x + 1)) = I ((bl (x + 1) : Nat) : Int) from rfl, I_F (k := 20 * x + 2), lit1q, I_add]
    refine k_le ⟨by omega, by omega⟩ ⟨by omega, by omega⟩ (fun _ => z0) (fun h4 => ?_)
    refine e_in ⟨by omega, by omega⟩ (by omega) ?_
    rw [tnI (n := (F w (20 * x + 2)).toNat) (by omega) (by omega), I_A (k := x + 2), I_add]
    have a3 : 0 ≤ A w (x + 2) (F w (20 * x + 2)).toNat ∧ A w (x + 2) (F w (20 * x + 2)).toNat ≤ bl (x + 1) := by
      obtain ⟨b1, b2, b3⟩ := w5 ((F w (20 * x + 2)).toNat - 1) (by omega)
      rw [show (F w (20 * x + 2)).toNat - 1 + 1 = (F w (20 * x + 2)).toNat by omega] at b2 b3
      omega
    refine k_le ⟨by omega, by omega⟩ ⟨by omega, by omega⟩ (fun h5 => ?_) (fun _ => z0)
    refine e_in ⟨by omega, by omega⟩ (by omega) ?_
    have ft : ftB 3 (w.2.2.1 5) (I st).toNatClampNeg (I ln).toNatClampNeg = true := by
      rw [tnI (n := st.toNat) (by omega) (by omega), tnI (n := ln.toNat) (by omega) (by omega)]
      unfold ftB
      rw [if_pos rfl, List.all_eq_true]
      intro i hi
      exact tp _ (by have := List.mem_range.mp hi; omega)
    rw [ft, Bool.and_true]
    refine e_cp ⟨hst, a3.1, hln.1, by rw [hb3]; omega, by omega⟩ (by rw [hb3]; decide) (by omega) (ok_lt.mpr ?_)
    generalize hw2 : upA w (x + 1) _ = w2
    have f2 : FR [20 * x + 2] [] [x + 1, x + 2] [] w w2 := by rw [← hw2]; exact FR_upA FR.rf (by simp)
    have i2 : w2.1 = w.1 := by rw [← hw2]; rfl
    have r2 : w2.2.2.1 (x + 2) = w.2.2.1 (x + 2) := by rw [← hw2]; exact if_neg (by omega)
    have F2 : ∀ k, F w2 k = F w k := fun k => by show (w2.1 k).toInt = _; rw [i2]; rfl
    have A2 : ∀ k, A w2 (x + 2) k = A w (x + 2) k := fun k => by show (w2.2.2.1 (x + 2) k).toInt = _; rw [r2]; rfl
    rw [show w2.1 (20 * x + 2) = I (F w (20 * x + 2)) by rw [i2]; exact I_F, tnI (n := (F w (20 * x + 2)).toNat) (by omega) (by omega), I_A (k := x + 2), A2, I_add, I_add]
    refine e_in ⟨by omega, by omega⟩ (by omega) (e_in ⟨by omega, by omega⟩ (by omega) (ok_lt.mpr (ok_lt.mpr (ok_some.mpr ?_))))
    rw [tnI (n := (F w (20 * x + 2)).toNat + 1) (by omega) (by omega), wa_e, show (wa w2 (x + 2) ((F w (20 * x + 2)).toNat + 1) (A w (x + 2) (F w (20 * x + 2)).toNat + ln)).1 (20 * x + 2) = I (F w (20 * x + 2)) by show w2.1 _ = _; rw [i2]; exact I_F, I_add, wi_e]
    generalize hw4 : wi (wa w2 (x + 2) ((F w (20 * x + 2)).toNat + 1) (A w (x + 2) (F w (20 * x + 2)).toNat + ln)) (20 * x + 2) (F w (20 * x + 2) + 1) = w4
    have f4 : FR [20 * x + 2] [] [x + 1, x + 2] [] w w4 := by rw [← hw4]; exact FR.wi (FR.wa f2 (by simp)) (by simp)
    have F4 : F w4 (20 * x + 2) = F w (20 * x + 2) + 1 := by rw [← hw4, F_wi (by omega) (by omega), if_pos rfl]
    have A4 : ∀ k, A w4 (x + 2) k = if k = (F w (20 * x + 2)).toNat + 1 then A w (x + 2) (F w (20 * x + 2)).toNat + ln else A w (x + 2) k := fun k => by
      rw [← hw4]
      show A (wa w2 (x + 2) _ _) (x + 2) k = _
      rw [A_wa (by omega) (by omega), if_pos rfl, A2]
    have e5 : (w4.1 (20 * x + 2)) - I 1 = I (((F w (20 * x + 2)).toNat : Nat) : Int) := by
      rw [I_F (k := 20 * x + 2), F4, I_sub, show F w (20 * x + 2) + 1 - 1 = (((F w (20 * x + 2)).toNat : Nat) : Int) by omega]
    refine ⟨⟨by omega, by omega, w3, wb4, fun k hk => ?_⟩, f4, by omega, (F w (20 * x + 2)).toNat, e5, by omega⟩
    rw [A4, A4]
    by_cases z : k = (F w (20 * x + 2)).toNat
    · subst z
      rw [if_neg (by omega), if_pos rfl]; omega
    · have := w5 k (by omega)
      rw [if_neg (by omega), if_neg (by omega)]; exact this
  · refine ok_br.mpr ⟨fun z => ?_, fun _ => ok_some.mpr ⟨hw', FR.rf, Int.le_refl _, k, rfl, hk⟩⟩
    have e := (I_eq (x := ((k : Nat) : Int)) (y := -1) (by omega) (by omega) (by decide) (by decide)).mp (show I ((k : Nat) : Int) = I (-1) from of_decide_eq_true z)
    omega
end
