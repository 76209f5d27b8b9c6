set_option maxRecDepth 100000
def CVI (u : MS) (lv : Nat) : Prop := (1 ≤ F u 441 ∧ F u 441 ≤ 24000) ∧ (0 ≤ F u 706 ∧ F u 706 ≤ 4000) ∧ (F u 709 = ((lv : Nat) : Int) ∧ lv ≤ 30) ∧ ((F u 712 = 0 ∨ F u 712 = 1) ∧ (F u 713 = 0 ∨ F u 713 = 1)) ∧ (0 ≤ F u 714 ∧ ((F u 714 ≤ 64031 ∧ 1 ≤ F u 714 % 16) ∨ F u 714 = 1000000000)) ∧ (F u 711 = 0 ∨ F u 711 = 1) ∧ (∀ j, j < 32 → (0 ≤ A u 40 j ∧ A u 40 j ≤ 4000) ∧ 0 ≤ A u 41 j ∧ A u 41 j ≤ 4000) ∧ A u 40 lv ≤ F u 706 ∧ F u 706 - A u 40 lv ≤ A u 41 lv
def KMF (u w : MS) : Prop := FR [441, 706, 709, 711, 712, 713, 714] [] [23, 30, 31, 32, 39, 40, 41, 42] [] u w
def KMc (u w : MS) (lv : Nat) : Prop := KMF u w ∧ CVI w lv ∧ F u 441 ≤ F w 441 ∧ F w 714 ≤ F u 714 ∧ (F w 711 = 0 → F u 711 = 0) ∧ (F w 712 = F u 712 ∧ F w 713 = F u 713) ∧ (∀ j, j ≤ lv → A w 40 j = A u 40 j) ∧ (∀ j, j < lv → A w 41 j = A u 41 j) ∧ A u 41 lv ≤ A w 41 lv
section
variable {u v w : MS} {N lv t : Nat} {l l2 : List Int} {x y c : Int} {H : List Nat}
theorem KMF.rf : KMF u u := FR.rf
theorem KMF.tr (a : KMF u v) (b : KMF v w) : KMF u w := FR.tr a b
theorem KMc.rf (h : CVI u lv) : KMc u u lv := ⟨FR.rf, h, by omega, by omega, fun z => z, ⟨rfl, rfl⟩, fun _ _ => rfl, fun _ _ => rfl, by omega⟩
theorem KMc.tr (a : KMc u v lv) (b : KMc v w lv) : KMc u w lv := by
  obtain ⟨a1, a2, a3, a4, a5, ⟨a6, a7⟩, a8, a9, a10⟩ := a
  obtain ⟨b1, b2, b3, b4, b5, ⟨b6, b7⟩, b8, b9, b10⟩ := b
  exact ⟨a1.tr b1, b2, by omega, by omega, fun z => a5 (b5 z), ⟨b6.trans a6, b7.trans a7⟩, fun j hj => (b8 j hj).trans (a8 j hj), fun j hj => (b9 j hj).trans (a9 j hj), by omega⟩
theorem EMc.km (h : CVI u lv) (e : EMc u w l) : KMc u w lv := by
  have f := e.1
  have eF : ∀ k, k ≠ 441 → F w k = F u k := fun k hk => congrArg _ (f.1 k (by simp; exact hk))
  have eA : ∀ r k, r ≠ 23 → A w r k = A u r k := fun r k hr => by show (w.2.2.1 r k).toInt = _; rw [f.2.2.1 r (by simp; exact hr)]; rfl
  obtain ⟨h1, h2, h3, h4, h5, h6, h7, h8, h9⟩ := h
  refine ⟨FR.mo f (by simp) (by simp) (by simp) (by simp), ⟨EMc.s h1 e, by rw [eF 706 (by decide)]; exact h2, ⟨by rw [eF 709 (by decide)]; exact h3.1, h3.2⟩, ⟨by rw [eF 712 (by decide)]; exact h4.1, by rw [eF 713 (by decide)]; exact h4.2⟩, by rw [eF 714 (by decide)]; exact h5, by rw [eF 711 (by decide)]; exact h6, fun j hj => by rw [eA 40 _ (by decide), eA 41 _ (by decide)]; exact h7 j hj, by rw [eA 40 _ (by decide), eF 706 (by decide)]; exact h8, by rw [eA 40 _ (by decide), eF 706 (by decide), eA 41 _ (by decide)]; exact h9⟩, e.2.1.1, by rw [eF 714 (by decide)]; omega, fun z => by rw [eF 711 (by decide)] at z; exact z, ⟨eF 712 (by decide), eF 713 (by decide)⟩, fun j _ => eA 40 _ (by decide), fun j _ => eA 41 _ (by decide), by rw [eA 41 _ (by decide)]; omega⟩
theorem fault_e (h : 0 ≤ F u 714 ∧ ((F u 714 ≤ 64031 ∧ 1 ≤ F u 714 % 16) ∨ F u 714 = 1000000000)) (ht : 0 ≤ x ∧ x ≤ 4001) (hy : 1 ≤ y ∧ y ≤ 15) : ∃ z : Int, hm_Cm_fault N u (I x) (I y) = some (wi u 714 z, ()) ∧ 0 ≤ z ∧ z ≤ F u 714 ∧ z ≤ 64031 ∧ 1 ≤ z % 16 := by
  unfold hm_Cm_fault hb_Cm_fault_0
  rw [show (16 : Int32) = I 16 from rfl, I_mul, I_add, I_F (k := 714)]
  by_cases z : x * 16 + y < F u 714
  · rw [if_pos ((I_lt (by omega) (by omega) (by omega) (by omega)).mpr z)]
    exact ⟨x * 16 + y, rfl, by omega, by omega, by omega, by omega⟩
  · rw [if_neg (fun q => z ((I_lt (by omega) (by omega) (by omega) (by omega)).mp q))]
    exact ⟨F u 714, rfl, by omega, by omega, by omega, by omega⟩
theorem KM_714 (h : CVI u lv) (hx : 0 ≤ x ∧ x ≤ F u 714 ∧ x ≤ 64031 ∧ 1 ≤ x % 16) : KMc u (wi u 714 x) lv := by
  obtain ⟨h1, h2, h3, h4, h5, h6, h7, h8, h9⟩ := h
  have eF : ∀ k, k ≠ 714 → F (wi u 714 x) k = F u k := fun k hk => by rw [F_wi (by omega) (by omega), if_neg hk]
  have e4 : F (wi u 714 x) 714 = x := by rw [F_wi (by omega) (by omega), if_pos rfl]
  have eA : ∀ r k, A (wi u 714 x) r k = A u r k := fun r k => rfl
  exact ⟨FR.wi FR.rf (by simp), ⟨by rw [eF 441 (by decide)]; exact h1, by rw [eF 706 (by decide)]; exact h2, ⟨by rw [eF 709 (by decide)]; exact h3.1, h3.2⟩, ⟨by rw [eF 712 (by decide)]; exact h4.1, by rw [eF 713 (by decide)]; exact h4.2⟩, by rw [e4]; omega, by rw [eF 711 (by decide)]; exact h6, h7, by rw [eF 706 (by decide)]; exact h8, by rw [eF 706 (by decide)]; exact h9⟩, by rw [eF 441 (by decide)]; omega, by rw [e4]; omega, fun z => by rw [eF 711 (by decide)] at z; exact z, ⟨eF 712 (by decide), eF 713 (by decide)⟩, fun j _ => rfl, fun j _ => rfl, by rw [eA]; omega⟩
theorem fault_B {α : Type} {Q : MS → α → Prop} {f : MS → Unit → Option (MS × α)} (h : CVI u lv) (ht : 0 ≤ x ∧ x ≤ 4001) (hy : 1 ≤ y ∧ y ≤ 15) (k : ∀ w, KMc u w lv → FR [714] [] [] [] u w → F w 714 < 1000000000 → OK Q (f w ())) : OK Q (bnd (hm_Cm_fault N u (I x) (I y)) f) := by
  obtain ⟨z, e, z1, z2, z3, z4⟩ := fault_e (N := N) h.2.2.2.2.1 ht hy
  rw [e, bnd_so]
  exact k _ (KM_714 h ⟨z1, z2, z3, z4⟩) (FR.wi FR.rf (by simp)) (by rw [F_wi (by omega) (by omega), if_pos rfl]; omega)
theorem notIn_B {α : Type} {Q : MS → α → Prop} {f : MS → Unit → Option (MS × α)} (h : CVI u lv) (ht : 0 ≤ x ∧ x ≤ 4001) (k : ∀ w, KMc u w lv → FR [714] [] [] [] u w → (F u 712 = 0 ∨ F w 714 < 1000000000) → OK Q (f w ())) : OK Q (bnd (hm_Cm_notInGuard N u (I x)) f) := by
  unfold hm_Cm_notInGuard hb_Cm_notInGuard_0 hb_Cm_notInGuard_14
  rw [ok_bnd, I_F (k := 712)]
  refine k_c (y := 0) rfl (F_r _ _) ⟨by decide, by decide⟩ (fun z => ok_some.mpr (k u (KMc.rf h) FR.rf (Or.inl z))) (fun z => ?_)
  rw [show (7 : Int32) = I 7 from rfl]
  exact fault_B h ht (by omega) (fun w gw fw hw => ok_some.mpr (k w gw fw (Or.inr hw)))
theorem isBound_ok {nm fr : Int} (h : CVI u lv) (ht : t < 4002) (hf : 0 ≤ fr ∧ fr ≤ 4000) (hN : 10000 ≤ N) : OK (fun w r => FR [] [] [42] [] u w ∧ (r = I 0 ∨ r = I 1)) (hm_Cm_isBound N u (I nm) (I ((t : Nat) : Int)) (I fr)) := by
  obtain ⟨h1, h2, h3, -⟩ := h
  have g2 : ∀ (M d : Nat) (y : Int), RG y → d ≤ 31 → d < M → OK (fun w r => FR [] [] [42] [] u w ∧ (r = I 0 ∨ r = I 1)) ((hg_Cm_isBound N M).2 u (I ((t : Nat) : Int)) (I y) (I ((d : Nat) : Int))) := by
    intro M
    induction M with
    | zero => intro d y _ _ hM; omega
    | succ M ih =>
      intro d y hy hd hM
      show OK _ (hb_Cm_isBound_31 N (hg_Cm_isBound N M) u (I ((t : Nat) : Int)) (I y) (I ((d : Nat) : Int)))
      have e54 : OK (fun w r => FR [] [] [42] [] u w ∧ (r = I 0 ∨ r = I 1)) (hb_Cm_isBound_54 N (hg_Cm_isBound N M) u (I ((t : Nat) : Int)) (I ((d : Nat) : Int))) := by
        unfold hb_Cm_isBound_54
        refine e_in ⟨by omega, by omega⟩ (by decide) (ok_lt.mpr (ok_ck.mpr ⟨by decide, ok_some.mpr ⟨?_, Or.inr rfl⟩⟩))
        rw [wa_e]
        exact FR.wa FR.rf (by simp)
      unfold hb_Cm_isBound_31
      rw [lit0q]
      refine k_le ⟨by omega, by omega⟩ ⟨by decide, by decide⟩ (fun _ => e54) (fun z => e_in ⟨by omega, by omega⟩ (by decide) ?_)
      rw [tnI (n := d) rfl (by omega), I_A (k := 40)]
      refine k_le (A_r _ _ _) hy (fun _ => e54) (fun _ => ?_)
      rw [show (-1 : Int32) = I (-1) from rfl, I_add, show ((d : Nat) : Int) + -1 = ((d - 1 : Nat) : Int) by omega]
      exact ih (d - 1) y hy (by omega) (by omega)
  have g1 : ∀ (M : Nat) (y : Int), -1 ≤ y ∧ y < 4000 → y + 1 < ((M : Nat) : Int) → (31 : Int) + (y + 1) < ((M : Nat) : Int) → OK (fun w r => FR [] [] [42] [] u w ∧ (r = I 0 ∨ r = I 1)) ((hg_Cm_isBound N M).1 u (I nm) (I ((t : Nat) : Int)) (I fr) (I y)) := by
    intro M
    induction M with
    | zero => intro y _ hM; omega
    | succ M ih =>
      intro y hy hM hM2
      show OK _ (hb_Cm_isBound_8 N (hg_Cm_isBound N M) u (I nm) (I ((t : Nat) : Int)) (I fr) (I y))
      unfold hb_Cm_isBound_8
      refine k_lt ⟨by omega, by omega⟩ ⟨by omega, by omega⟩ (fun _ => ok_ck.mpr ⟨by decide, ok_some.mpr ⟨FR.rf, Or.inl rfl⟩⟩) (fun z => e_in ⟨by omega, by omega⟩ (by decide) ?_)
      refine ok_br.mpr ⟨fun _ => ?_, fun _ => ?_⟩
      · rw [I_F (k := 709), h3.1]
        exact g2 M lv y ⟨by omega, by omega⟩ (by omega) (by omega)
      · rw [show (-1 : Int32) = I (-1) from rfl, I_add]
        exact ih (y + -1) (by omega) (by omega) (by omega)
  unfold hm_Cm_isBound hb_Cm_isBound_0
  rw [I_F (k := 706), lit1q, I_sub]
  exact g1 N _ (by omega) (by omega) (by omega)
end
